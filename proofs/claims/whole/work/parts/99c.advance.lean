/-! THE CLASS GOES TO THE NEXT TOKEN -/
def RTb (σ : MS) (B : Nat → Nat) (n : Nat) : Prop := (RTx σ) ∧ (sI σ 98 11 = nI n) ∧ (∀ j, j < n → bx (B j) (sI σ 99 j)) ∧ (∀ k, k < 22 → sL σ 100 k = lN (nm27 (WL k)))
theorem RTb.x {σ : MS} {B : Nat → Nat} {n : Nat} (H : RTb σ B n) : RTx σ := H.1
theorem RTb.len {σ : MS} {B : Nat → Nat} {n : Nat} (H : RTb σ B n) : sI σ 98 11 = nI n := H.2.1
theorem RTb.b {σ : MS} {B : Nat → Nat} {n : Nat} (H : RTb σ B n) : ∀ j, j < n → bx (B j) (sI σ 99 j) := H.2.2.1
theorem RTb.w {σ : MS} {B : Nat → Nat} {n : Nat} (H : RTb σ B n) : ∀ k, k < 22 → sL σ 100 k = lN (nm27 (WL k)) := H.2.2.2
theorem RTb.mk {σ : MS} {B : Nat → Nat} {n : Nat} (x : RTx σ) (len : sI σ 98 11 = nI n) (b : ∀ j, j < n → bx (B j) (sI σ 99 j)) (w : ∀ k, k < 22 → sL σ 100 k = lN (nm27 (WL k))) : RTb σ B n := ⟨x, len, b, w⟩
def RTk (σ : MS) (B : Nat → Nat) (n : Nat) (T : Tk) : Prop := (RTb σ B n) ∧ (sI σ 98 2 = nI T.1) ∧ (sI σ 98 3 = nI T.2.1) ∧ (sI σ 98 10 = nI T.2.2) ∧ (T.1 = 3 → sI σ 98 4 = nI (dC B T.2.1 (T.2.2 - T.2.1))) ∧ (T.1 = 4 → sI σ 98 5 = nI (B T.2.1)) ∧ (T.1 = 2 → sI σ 98 6 = oI (wno (wl B T.2.1 T.2.2))) ∧ (T.1 = 2 → sL σ 98 7 = lN (if T.2.2 - T.2.1 ≤ 8 then nm27 (wl B T.2.1 T.2.2) else 0))
theorem RTk.t {σ : MS} {B : Nat → Nat} {n : Nat} {T : Tk} (H : RTk σ B n T) : RTb σ B n := H.1
theorem RTk.k2 {σ : MS} {B : Nat → Nat} {n : Nat} {T : Tk} (H : RTk σ B n T) : sI σ 98 2 = nI T.1 := H.2.1
theorem RTk.k3 {σ : MS} {B : Nat → Nat} {n : Nat} {T : Tk} (H : RTk σ B n T) : sI σ 98 3 = nI T.2.1 := H.2.2.1
theorem RTk.k10 {σ : MS} {B : Nat → Nat} {n : Nat} {T : Tk} (H : RTk σ B n T) : sI σ 98 10 = nI T.2.2 := H.2.2.2.1
theorem RTk.k4 {σ : MS} {B : Nat → Nat} {n : Nat} {T : Tk} (H : RTk σ B n T) : T.1 = 3 → sI σ 98 4 = nI (dC B T.2.1 (T.2.2 - T.2.1)) := H.2.2.2.2.1
theorem RTk.k5 {σ : MS} {B : Nat → Nat} {n : Nat} {T : Tk} (H : RTk σ B n T) : T.1 = 4 → sI σ 98 5 = nI (B T.2.1) := H.2.2.2.2.2.1
theorem RTk.k6 {σ : MS} {B : Nat → Nat} {n : Nat} {T : Tk} (H : RTk σ B n T) : T.1 = 2 → sI σ 98 6 = oI (wno (wl B T.2.1 T.2.2)) := H.2.2.2.2.2.2.1
theorem RTk.k7 {σ : MS} {B : Nat → Nat} {n : Nat} {T : Tk} (H : RTk σ B n T) : T.1 = 2 → sL σ 98 7 = lN (if T.2.2 - T.2.1 ≤ 8 then nm27 (wl B T.2.1 T.2.2) else 0) := H.2.2.2.2.2.2.2
theorem RTk.mk {σ : MS} {B : Nat → Nat} {n : Nat} {T : Tk} (t : RTb σ B n) (k2 : sI σ 98 2 = nI T.1) (k3 : sI σ 98 3 = nI T.2.1) (k10 : sI σ 98 10 = nI T.2.2) (k4 : T.1 = 3 → sI σ 98 4 = nI (dC B T.2.1 (T.2.2 - T.2.1))) (k5 : T.1 = 4 → sI σ 98 5 = nI (B T.2.1)) (k6 : T.1 = 2 → sI σ 98 6 = oI (wno (wl B T.2.1 T.2.2))) (k7 : T.1 = 2 → sL σ 98 7 = lN (if T.2.2 - T.2.1 ≤ 8 then nm27 (wl B T.2.1 T.2.2) else 0)) : RTk σ B n T := ⟨t, k2, k3, k10, k4, k5, k6, k7⟩
/-- what going on leaves of the Text as it was -/
def TaF (σ τ : MS) : Prop := Ag (fun b => b = 98) σ τ ∧ ∀ j, (j = 1 ∨ j = 8 ∨ j = 9 ∨ j = 11) → sI τ 98 j = sI σ 98 j
section ADV
variable {d : Nat} {σ τ ρ : MS} {n s : Nat} {B : Nat → Nat} {K : Option Value → MS → Prop}
theorem TaF.rf : TaF σ σ := ⟨Ag.rf, fun _ _ => rfl⟩
theorem TaF.tr (h1 : TaF σ τ) (h2 : TaF τ ρ) : TaF σ ρ := ⟨h1.1.tr h2.1, fun j hj => (h2.2 j hj).trans (h1.2 j hj)⟩
theorem TaF.setI (h : TaF σ τ) {i : Nat} {v : Int32} (hi : ¬ (i = 1 ∨ i = 8 ∨ i = 9 ∨ i = 11)) : TaF σ (setI τ 98 i v) := ⟨h.1.setI rfl, fun j hj => by rw [sI_setI, if_neg (fun hh : (98 : Nat) = 98 ∧ j = i => hi (by rw [← hh.2]; exact hj))]; exact h.2 j hj⟩
theorem TaF.setL (h : TaF σ τ) {i : Nat} {v : Int64} : TaF σ (setL τ 98 i v) := ⟨h.1.setL rfl, fun j hj => h.2 j hj⟩
theorem RTb.ta (X : RTb σ B n) (h : TaF σ τ) : RTb τ B n := RTb.mk (X.x.ag h.1) ((h.2 11 (by omega)).trans X.len) (fun j hj => by rw [h.1.I (by omega)]; exact X.b j hj) (fun k hk => by rw [h.1.L (by omega)]; exact X.w k hk)
/-- which of the words a number is -/
def wv (v : Int64) : Nat → Bool := fun i => lN (nm27 (WL i)) == v
theorem c_wordLoop (X : RTx σ) (w : ∀ k, k < 22 → sL σ 100 k = lN (nm27 (WL k))) {v : Int64} (hv : sL σ 98 7 = v) : ∀ i, i ≤ 22 → zX d 112 115 [.ref 98, .int (nI 0)] [] (setI σ 98 6 (-nI 1)) K = zX d 112 115 [.ref 98, .int (nI i)] [] (setI σ 98 6 (oI (ff (wv v) i))) K := by
  intro i
  induction i with
  | zero => intro _; rfl
  | succ i ih =>
    intro hi
    rw [ih (by omega)]
    have X2 : ∀ u, RTx (setI σ 98 6 u) := fun u => X.ag (Ag.rf.setI (p := fun b => b = 98) rfl)
    have Y := X2 (oI (ff (wv v) i))
    have hi22 : i < 22 := by omega
    have w1 : ∀ u, sL (setI σ 98 6 u) 100 i = lN (nm27 (WL i)) := fun u => w i hi22
    have v1 : ∀ u, sL (setI σ 98 6 u) 98 7 = v := fun u => hv
    rw [L_112_115, zt_112_115]
    by_cases e : lN (nm27 (WL i)) = v
    · have e1 : ff (wv v) (i + 1) = some i := ff_of (by omega) (by unfold wv; rw [e]; exact beq_self_eq_true v) (fun j hj => by
        unfold wv
        refine beq_eq_false_iff_ne.mpr (fun hh => ?_)
        have := WL_27 j (by omega) i hi22 (lN_inj63 (WL_lt j (by omega)).2.1 (WL_lt i hi22).2.1 (hh.trans e.symm))
        omega)
      rw [e1]
      simp (disch := omega) only [L_112_140, zt_112_140, ↓e_iconst0, ↓e_iconst1, ↓e_bipush0, ↓e_bipush1, ↓e_sipush0, ↓e_sipush1, ↓e_ldc0, ↓e_ldc1, ↓e_ldc_w0, ↓e_ldc_w1, ↓e_ldc2, ↓e_lconst0, ↓e_lconst1, ↓e_ldc2_w0, ↓e_ldc2_w1, ↓e_iload, ↓e_iload_n, ↓e_istore, ↓e_istore_n, ↓e_lload, ↓e_lload_n, ↓e_lstore, ↓e_lstore_n, ↓e_aload, ↓e_aload_n, ↓e_astore, ↓e_astore_n, ↓e_iinc0, ↓e_iinc1, ↓e_iadd, ↓e_isub, ↓e_imul, ↓e_iand, ↓e_ior, ↓e_ixor, ↓e_ishl, ↓e_ishr, ↓e_iushr, ↓e_ladd, ↓e_lsub, ↓e_lmul, ↓e_land, ↓e_lor, ↓e_idiv, ↓e_irem, ↓e_ldiv, ↓e_lrem, ↓e_lshl, ↓e_lcmp, ↓e_i2l, ↓e_l2i, ↓e_i2b, ↓e_i2s, ↓e_dup_int, ↓e_pop_int, ↓e_dup_ref, ↓e_pop_ref, ↓e_dup2, ↓e_goto, ↓e_nop, ↓e_ifCond_eq, ↓e_if_icmp_eq, ↓e_ifCond_ne, ↓e_if_icmp_ne, ↓e_ifCond_lt, ↓e_if_icmp_lt, ↓e_ifCond_ge, ↓e_if_icmp_ge, ↓e_ifCond_gt, ↓e_if_icmp_gt, ↓e_ifCond_le, ↓e_if_icmp_le, ↓e_tab, ↓e_look, ↓e_get0, ↓e_get1, ↓e_get2, ↓e_get3, ↓e_put0, ↓e_put1, ↓e_put2, ↓e_put3, ↓e_iaload, ↓e_laload, ↓e_baload, ↓e_aaload, ↓e_iastore, ↓e_lastore, ↓e_bastore, ↓e_aastore, ↓e_alen, ↓e_new, ↓e_newarray, ↓e_anewarray, ↓e_objinit, ↓e_virt1, ↓e_virt2, ↓e_virt3, ↓e_virt4, ↓e_virt5, ↓e_virt6, ↓e_virt7, ↓e_stat0, ↓e_stat1, ↓e_stat2, ↓e_stat3, ↓e_stat4, ↓e_stat5, ↓e_stat6, ↓e_stat7, ↓e_spec1, ↓e_spec2, ↓e_spec3, ↓e_spec4, ↓e_spec5, ↓e_strlen, ↓e_charAt, ↓e_copy, ↓e_iret0, ↓e_iret1, ↓e_lret, ↓e_aret, ↓e_vret, zIsI_int, zIsL_long, zIsA_ref, zInt_int, true_and, and_true, ↓reduceIte, zGet, zSet, zSet2, zEnt, zWid, Value.category, List.map_cons, List.map_nil, List.sum_cons, List.sum_nil, List.replicate, Option.toList, Nat.reduceAdd, Nat.reduceSub, Nat.reduceMul, Nat.reduceLeDiff, Nat.reduceEqDiff, Nat.reduceLT, List.cons_append, List.nil_append, true_or, or_true, or_false, false_or, nI_ltI, nI_leI, nI_eq, nI_clamp, zIn_nI, bI_0, nI_add, nI_mul, nI_or, nI_and, nI_shl1, nI_bit, ↓pk_rem, pk_div, Nat.lt_irrefl, Nat.not_lt_zero, reduceCtorEq, Y.k, Y.r12, Y.k100, w1, v1, hi22, lc_eq, e, setI_setI, show oI (some i) = nI i from rfl]
    · have e1 : ff (wv v) (i + 1) = ff (wv v) i := by
        show (match ff (wv v) i with
          | some i => some i
          | none => if wv v i = true then some i else none) = _
        have : wv v i = false := beq_eq_false_iff_ne.mpr e
        rw [this]
        cases ff (wv v) i <;> rfl
      rw [e1]
      simp (disch := omega) only [L_112_140, zt_112_140, ↓e_iconst0, ↓e_iconst1, ↓e_bipush0, ↓e_bipush1, ↓e_sipush0, ↓e_sipush1, ↓e_ldc0, ↓e_ldc1, ↓e_ldc_w0, ↓e_ldc_w1, ↓e_ldc2, ↓e_lconst0, ↓e_lconst1, ↓e_ldc2_w0, ↓e_ldc2_w1, ↓e_iload, ↓e_iload_n, ↓e_istore, ↓e_istore_n, ↓e_lload, ↓e_lload_n, ↓e_lstore, ↓e_lstore_n, ↓e_aload, ↓e_aload_n, ↓e_astore, ↓e_astore_n, ↓e_iinc0, ↓e_iinc1, ↓e_iadd, ↓e_isub, ↓e_imul, ↓e_iand, ↓e_ior, ↓e_ixor, ↓e_ishl, ↓e_ishr, ↓e_iushr, ↓e_ladd, ↓e_lsub, ↓e_lmul, ↓e_land, ↓e_lor, ↓e_idiv, ↓e_irem, ↓e_ldiv, ↓e_lrem, ↓e_lshl, ↓e_lcmp, ↓e_i2l, ↓e_l2i, ↓e_i2b, ↓e_i2s, ↓e_dup_int, ↓e_pop_int, ↓e_dup_ref, ↓e_pop_ref, ↓e_dup2, ↓e_goto, ↓e_nop, ↓e_ifCond_eq, ↓e_if_icmp_eq, ↓e_ifCond_ne, ↓e_if_icmp_ne, ↓e_ifCond_lt, ↓e_if_icmp_lt, ↓e_ifCond_ge, ↓e_if_icmp_ge, ↓e_ifCond_gt, ↓e_if_icmp_gt, ↓e_ifCond_le, ↓e_if_icmp_le, ↓e_tab, ↓e_look, ↓e_get0, ↓e_get1, ↓e_get2, ↓e_get3, ↓e_put0, ↓e_put1, ↓e_put2, ↓e_put3, ↓e_iaload, ↓e_laload, ↓e_baload, ↓e_aaload, ↓e_iastore, ↓e_lastore, ↓e_bastore, ↓e_aastore, ↓e_alen, ↓e_new, ↓e_newarray, ↓e_anewarray, ↓e_objinit, ↓e_virt1, ↓e_virt2, ↓e_virt3, ↓e_virt4, ↓e_virt5, ↓e_virt6, ↓e_virt7, ↓e_stat0, ↓e_stat1, ↓e_stat2, ↓e_stat3, ↓e_stat4, ↓e_stat5, ↓e_stat6, ↓e_stat7, ↓e_spec1, ↓e_spec2, ↓e_spec3, ↓e_spec4, ↓e_spec5, ↓e_strlen, ↓e_charAt, ↓e_copy, ↓e_iret0, ↓e_iret1, ↓e_lret, ↓e_aret, ↓e_vret, zIsI_int, zIsL_long, zIsA_ref, zInt_int, true_and, and_true, ↓reduceIte, zGet, zSet, zSet2, zEnt, zWid, Value.category, List.map_cons, List.map_nil, List.sum_cons, List.sum_nil, List.replicate, Option.toList, Nat.reduceAdd, Nat.reduceSub, Nat.reduceMul, Nat.reduceLeDiff, Nat.reduceEqDiff, Nat.reduceLT, List.cons_append, List.nil_append, true_or, or_true, or_false, false_or, nI_ltI, nI_leI, nI_eq, nI_clamp, zIn_nI, bI_0, nI_add, nI_mul, nI_or, nI_and, nI_shl1, nI_bit, ↓pk_rem, pk_div, Nat.lt_irrefl, Nat.not_lt_zero, reduceCtorEq, Y.k, Y.r12, Y.k100, w1, v1, hi22, lc_eq, e]
theorem wno_long {l : List Nat} (h : 6 < l.length) : wno l = none := ff_none (fun j hj => beq_eq_false_iff_ne.mpr (fun hh => by have := (WL_lt j hj).2.2; rw [hh] at this; omega))
theorem wv_wno {l : List Nat} (h : Nm l) : ff (wv (lN (nm27 l))) 22 = wno l := ff_congr (fun j hj => nm27_beq (WL_Nm hj) h)
theorem wv_0 : ff (wv (lN 0)) 22 = none := ff_none (fun j hj => beq_eq_false_iff_ne.mpr (fun hh => by
  have h := WL_lt j hj
  have := lN_inj63 h.2.1 (by decide) hh
  omega))
theorem c_passLetters (X : RTb σ B n) (h9 : n ≤ 900) (h3 : sI σ 98 3 = nI s) (h10 : sI σ 98 10 = nI s) (hs : s < n) (hl : isLe (B s) = true) :
   ∃ τ, TaF σ τ ∧ RTk τ B n (2, s, skp isLe B n s) ∧ ∀ K, zC (d + 2) 112 [.ref 98] σ K = K none τ := by
  have f0 : TaF σ (setI σ 98 2 (nI 2)) := TaF.rf.setI (by omega)
  have X0 := X.ta f0
  have g3 : sI (setI σ 98 2 (nI 2)) 98 3 = nI s := by rw [sI_setI, if_neg (by omega)]; exact h3
  have g10 : sI (setI σ 98 2 (nI 2)) 98 10 = nI s := by rw [sI_setI, if_neg (by omega)]; exact h10
  have g2 : sI (setI σ 98 2 (nI 2)) 98 2 = nI 2 := by rw [sI_setI, if_pos ⟨rfl, rfl⟩]
  have Xk := X.x
  generalize hρ : setI σ 98 2 (nI 2) = ρ at f0 X0 g3 g10 g2
  obtain ⟨e, he⟩ : ∃ e, skp isLe B n s = e := ⟨_, rfl⟩
  have e1 : s < e := by rw [← he, skp_y hs hl]; have := skp_ge (f := isLe) (B := B) (n := n) (j := s + 1) (by omega); omega
  have e2 : e ≤ n := by rw [← he]; exact skp_le (by omega)
  have eL : ∀ i, s ≤ i → i < e → isLe (B i) = true := fun i h1 h2 => skp_in (n := n) (by omega) h1 (by rw [he]; exact h2)
  rw [he]
  have v0 : n8 B s s = 0 := by unfold n8; rw [Nat.min_eq_left (by omega), wl_0]; rfl
  have lp := fun K => c_letters (d := d) (K := K) X0.x X0.len g3 h9 X0.b (n - s) s rfl (Nat.le_refl _) (by omega)
  rw [v0, he] at lp
  -- the name as it stands in the end
  obtain ⟨v, hv⟩ : ∃ v, lN (if e - s ≤ 8 then nm27 (wl B s e) else 0) = v := ⟨_, rfl⟩
  have f1 : TaF ρ (setI (setL ρ 98 7 v) 98 10 (nI e)) := (TaF.rf.setL).setI (by omega)
  have X1 := X0.ta f1
  have fv : sL (setI (setL ρ 98 7 v) 98 10 (nI e)) 98 7 = v := by rw [sL_setI, sL_setL, if_pos ⟨rfl, rfl⟩]
  have f3 : sI (setI (setL ρ 98 7 v) 98 10 (nI e)) 98 3 = nI s := by rw [sI_setI, if_neg (by omega), sI_setL]; exact g3
  have f2 : sI (setI (setL ρ 98 7 v) 98 10 (nI e)) 98 2 = nI 2 := by rw [sI_setI, if_neg (by omega), sI_setL]; exact g2
  have f10 : sI (setI (setL ρ 98 7 v) 98 10 (nI e)) 98 10 = nI e := by rw [sI_setI, if_pos ⟨rfl, rfl⟩]
  have wlp := fun K => c_wordLoop (d := d + 1) (K := K) X1.x X1.w fv 22 (Nat.le_refl _)
  have ew : ff (wv v) 22 = wno (wl B s e) := by
    rw [← hv]
    by_cases h8 : e - s ≤ 8
    · rw [if_pos h8]; exact wv_wno (wl_Nm eL e1 h8)
    · rw [if_neg h8, wno_long (by rw [wl_len]; omega)]; exact wv_0
  rw [ew] at wlp
  have f4 : TaF σ (setI (setI (setL ρ 98 7 v) 98 10 (nI e)) 98 6 (oI (wno (wl B s e)))) := (f0.tr f1).setI (by omega)
  refine ⟨setI (setI (setL ρ 98 7 v) 98 10 (nI e)) 98 6 (oI (wno (wl B s e))), f4, RTk.mk (X.ta f4) ?_ ?_ ?_ (fun h => by cases h) (fun h => by cases h) (fun _ => ?_) (fun _ => ?_), fun K => ?_⟩
  · rw [sI_setI, if_neg (by omega)]; exact f2
  · rw [sI_setI, if_neg (by omega)]; exact f3
  · rw [sI_setI, if_neg (by omega)]; exact f10
  · rw [sI_setI, if_pos ⟨rfl, rfl⟩]
  · rw [sL_setI, fv]; exact hv.symm
  · have stp : zX (d + 1) 112 89 [.ref 98, .null] [] (setI (setL ρ 98 7 (lN (n8 B s e))) 98 10 (nI e)) K = zX (d + 1) 112 108 [.ref 98, .null] [] (setI (setL ρ 98 7 v) 98 10 (nI e)) K := by
      have f5 : TaF ρ (setI (setL ρ 98 7 (lN (n8 B s e))) 98 10 (nI e)) := (TaF.rf.setL).setI (by omega)
      have Y := (X0.ta f5).x
      have y3 : sI (setI (setL ρ 98 7 (lN (n8 B s e))) 98 10 (nI e)) 98 3 = nI s := by rw [sI_setI, if_neg (by omega), sI_setL]; exact g3
      have y10 : sI (setI (setL ρ 98 7 (lN (n8 B s e))) 98 10 (nI e)) 98 10 = nI e := by rw [sI_setI, if_pos ⟨rfl, rfl⟩]
      rw [L_112_89, zt_112_89]
      by_cases h8 : e - s ≤ 8
      · have q : n8 B s e = nm27 (wl B s e) := by unfold n8; rw [Nat.min_eq_left (by omega)]
        rw [← hv, if_pos h8, ← q]
        have h8' : ¬ 8 < e - s := by omega
        simp (disch := omega) only [↓e_iconst0, ↓e_iconst1, ↓e_bipush0, ↓e_bipush1, ↓e_sipush0, ↓e_sipush1, ↓e_ldc0, ↓e_ldc1, ↓e_ldc_w0, ↓e_ldc_w1, ↓e_ldc2, ↓e_lconst0, ↓e_lconst1, ↓e_ldc2_w0, ↓e_ldc2_w1, ↓e_iload, ↓e_iload_n, ↓e_istore, ↓e_istore_n, ↓e_lload, ↓e_lload_n, ↓e_lstore, ↓e_lstore_n, ↓e_aload, ↓e_aload_n, ↓e_astore, ↓e_astore_n, ↓e_iinc0, ↓e_iinc1, ↓e_iadd, ↓e_isub, ↓e_imul, ↓e_iand, ↓e_ior, ↓e_ixor, ↓e_ishl, ↓e_ishr, ↓e_iushr, ↓e_ladd, ↓e_lsub, ↓e_lmul, ↓e_land, ↓e_lor, ↓e_idiv, ↓e_irem, ↓e_ldiv, ↓e_lrem, ↓e_lshl, ↓e_lcmp, ↓e_i2l, ↓e_l2i, ↓e_i2b, ↓e_i2s, ↓e_dup_int, ↓e_pop_int, ↓e_dup_ref, ↓e_pop_ref, ↓e_dup2, ↓e_goto, ↓e_nop, ↓e_ifCond_eq, ↓e_if_icmp_eq, ↓e_ifCond_ne, ↓e_if_icmp_ne, ↓e_ifCond_lt, ↓e_if_icmp_lt, ↓e_ifCond_ge, ↓e_if_icmp_ge, ↓e_ifCond_gt, ↓e_if_icmp_gt, ↓e_ifCond_le, ↓e_if_icmp_le, ↓e_tab, ↓e_look, ↓e_get0, ↓e_get1, ↓e_get2, ↓e_get3, ↓e_put0, ↓e_put1, ↓e_put2, ↓e_put3, ↓e_iaload, ↓e_laload, ↓e_baload, ↓e_aaload, ↓e_iastore, ↓e_lastore, ↓e_bastore, ↓e_aastore, ↓e_alen, ↓e_new, ↓e_newarray, ↓e_anewarray, ↓e_objinit, ↓e_virt1, ↓e_virt2, ↓e_virt3, ↓e_virt4, ↓e_virt5, ↓e_virt6, ↓e_virt7, ↓e_stat0, ↓e_stat1, ↓e_stat2, ↓e_stat3, ↓e_stat4, ↓e_stat5, ↓e_stat6, ↓e_stat7, ↓e_spec1, ↓e_spec2, ↓e_spec3, ↓e_spec4, ↓e_spec5, ↓e_strlen, ↓e_charAt, ↓e_copy, ↓e_iret0, ↓e_iret1, ↓e_lret, ↓e_aret, ↓e_vret, zIsI_int, zIsL_long, zIsA_ref, zInt_int, true_and, and_true, ↓reduceIte, zGet, zSet, zSet2, zEnt, zWid, Value.category, List.map_cons, List.map_nil, List.sum_cons, List.sum_nil, List.replicate, Option.toList, Nat.reduceAdd, Nat.reduceSub, Nat.reduceMul, Nat.reduceLeDiff, Nat.reduceEqDiff, Nat.reduceLT, List.cons_append, List.nil_append, true_or, or_true, or_false, false_or, nI_ltI, nI_leI, nI_eq, nI_clamp, zIn_nI, bI_0, nI_add, nI_mul, nI_or, nI_and, nI_shl1, nI_bit, ↓pk_rem, pk_div, Nat.lt_irrefl, Nat.not_lt_zero, reduceCtorEq, Y.k, y3, y10, nI_sub, h8']
      · rw [← hv, if_neg h8]
        have h8' : 8 < e - s := by omega
        have q : ∀ w : Int64, setL (setI (setL ρ 98 7 w) 98 10 (nI e)) 98 7 (lN 0) = setI (setL ρ 98 7 (lN 0)) 98 10 (nI e) := fun w => by
          show setI (setL (setL ρ 98 7 w) 98 7 (lN 0)) 98 10 (nI e) = _
          rw [setL_two]
        simp (disch := omega) only [↓e_iconst0, ↓e_iconst1, ↓e_bipush0, ↓e_bipush1, ↓e_sipush0, ↓e_sipush1, ↓e_ldc0, ↓e_ldc1, ↓e_ldc_w0, ↓e_ldc_w1, ↓e_ldc2, ↓e_lconst0, ↓e_lconst1, ↓e_ldc2_w0, ↓e_ldc2_w1, ↓e_iload, ↓e_iload_n, ↓e_istore, ↓e_istore_n, ↓e_lload, ↓e_lload_n, ↓e_lstore, ↓e_lstore_n, ↓e_aload, ↓e_aload_n, ↓e_astore, ↓e_astore_n, ↓e_iinc0, ↓e_iinc1, ↓e_iadd, ↓e_isub, ↓e_imul, ↓e_iand, ↓e_ior, ↓e_ixor, ↓e_ishl, ↓e_ishr, ↓e_iushr, ↓e_ladd, ↓e_lsub, ↓e_lmul, ↓e_land, ↓e_lor, ↓e_idiv, ↓e_irem, ↓e_ldiv, ↓e_lrem, ↓e_lshl, ↓e_lcmp, ↓e_i2l, ↓e_l2i, ↓e_i2b, ↓e_i2s, ↓e_dup_int, ↓e_pop_int, ↓e_dup_ref, ↓e_pop_ref, ↓e_dup2, ↓e_goto, ↓e_nop, ↓e_ifCond_eq, ↓e_if_icmp_eq, ↓e_ifCond_ne, ↓e_if_icmp_ne, ↓e_ifCond_lt, ↓e_if_icmp_lt, ↓e_ifCond_ge, ↓e_if_icmp_ge, ↓e_ifCond_gt, ↓e_if_icmp_gt, ↓e_ifCond_le, ↓e_if_icmp_le, ↓e_tab, ↓e_look, ↓e_get0, ↓e_get1, ↓e_get2, ↓e_get3, ↓e_put0, ↓e_put1, ↓e_put2, ↓e_put3, ↓e_iaload, ↓e_laload, ↓e_baload, ↓e_aaload, ↓e_iastore, ↓e_lastore, ↓e_bastore, ↓e_aastore, ↓e_alen, ↓e_new, ↓e_newarray, ↓e_anewarray, ↓e_objinit, ↓e_virt1, ↓e_virt2, ↓e_virt3, ↓e_virt4, ↓e_virt5, ↓e_virt6, ↓e_virt7, ↓e_stat0, ↓e_stat1, ↓e_stat2, ↓e_stat3, ↓e_stat4, ↓e_stat5, ↓e_stat6, ↓e_stat7, ↓e_spec1, ↓e_spec2, ↓e_spec3, ↓e_spec4, ↓e_spec5, ↓e_strlen, ↓e_charAt, ↓e_copy, ↓e_iret0, ↓e_iret1, ↓e_lret, ↓e_aret, ↓e_vret, zIsI_int, zIsL_long, zIsA_ref, zInt_int, true_and, and_true, ↓reduceIte, zGet, zSet, zSet2, zEnt, zWid, Value.category, List.map_cons, List.map_nil, List.sum_cons, List.sum_nil, List.replicate, Option.toList, Nat.reduceAdd, Nat.reduceSub, Nat.reduceMul, Nat.reduceLeDiff, Nat.reduceEqDiff, Nat.reduceLT, List.cons_append, List.nil_append, true_or, or_true, or_false, false_or, nI_ltI, nI_leI, nI_eq, nI_clamp, zIn_nI, bI_0, nI_add, nI_mul, nI_or, nI_and, nI_shl1, nI_bit, ↓pk_rem, pk_div, Nat.lt_irrefl, Nat.not_lt_zero, reduceCtorEq, Y.k, y3, y10, nI_sub, h8', q]
    have Y1 := X1.x
    have Y4 := (X.ta f4).x
    have q0 : ρ = setI ρ 98 10 (nI s) := (setI_keep g10).symm
    have q1 : setL ρ 98 7 (lN 0) = setI (setL ρ 98 7 (lN 0)) 98 10 (nI s) := (setI_keep (by rw [sI_setL]; exact g10)).symm
    rw [E_112]
    simp (disch := omega) only [L_112_0, zt_112_0, ↓e_iconst0, ↓e_iconst1, ↓e_bipush0, ↓e_bipush1, ↓e_sipush0, ↓e_sipush1, ↓e_ldc0, ↓e_ldc1, ↓e_ldc_w0, ↓e_ldc_w1, ↓e_ldc2, ↓e_lconst0, ↓e_lconst1, ↓e_ldc2_w0, ↓e_ldc2_w1, ↓e_iload, ↓e_iload_n, ↓e_istore, ↓e_istore_n, ↓e_lload, ↓e_lload_n, ↓e_lstore, ↓e_lstore_n, ↓e_aload, ↓e_aload_n, ↓e_astore, ↓e_astore_n, ↓e_iinc0, ↓e_iinc1, ↓e_iadd, ↓e_isub, ↓e_imul, ↓e_iand, ↓e_ior, ↓e_ixor, ↓e_ishl, ↓e_ishr, ↓e_iushr, ↓e_ladd, ↓e_lsub, ↓e_lmul, ↓e_land, ↓e_lor, ↓e_idiv, ↓e_irem, ↓e_ldiv, ↓e_lrem, ↓e_lshl, ↓e_lcmp, ↓e_i2l, ↓e_l2i, ↓e_i2b, ↓e_i2s, ↓e_dup_int, ↓e_pop_int, ↓e_dup_ref, ↓e_pop_ref, ↓e_dup2, ↓e_goto, ↓e_nop, ↓e_ifCond_eq, ↓e_if_icmp_eq, ↓e_ifCond_ne, ↓e_if_icmp_ne, ↓e_ifCond_lt, ↓e_if_icmp_lt, ↓e_ifCond_ge, ↓e_if_icmp_ge, ↓e_ifCond_gt, ↓e_if_icmp_gt, ↓e_ifCond_le, ↓e_if_icmp_le, ↓e_tab, ↓e_look, ↓e_get0, ↓e_get1, ↓e_get2, ↓e_get3, ↓e_put0, ↓e_put1, ↓e_put2, ↓e_put3, ↓e_iaload, ↓e_laload, ↓e_baload, ↓e_aaload, ↓e_iastore, ↓e_lastore, ↓e_bastore, ↓e_aastore, ↓e_alen, ↓e_new, ↓e_newarray, ↓e_anewarray, ↓e_objinit, ↓e_virt1, ↓e_virt2, ↓e_virt3, ↓e_virt4, ↓e_virt5, ↓e_virt6, ↓e_virt7, ↓e_stat0, ↓e_stat1, ↓e_stat2, ↓e_stat3, ↓e_stat4, ↓e_stat5, ↓e_stat6, ↓e_stat7, ↓e_spec1, ↓e_spec2, ↓e_spec3, ↓e_spec4, ↓e_spec5, ↓e_strlen, ↓e_charAt, ↓e_copy, ↓e_iret0, ↓e_iret1, ↓e_lret, ↓e_aret, ↓e_vret, zIsI_int, zIsL_long, zIsA_ref, zInt_int, true_and, and_true, ↓reduceIte, zGet, zSet, zSet2, zEnt, zWid, Value.category, List.map_cons, List.map_nil, List.sum_cons, List.sum_nil, List.replicate, Option.toList, Nat.reduceAdd, Nat.reduceSub, Nat.reduceMul, Nat.reduceLeDiff, Nat.reduceEqDiff, Nat.reduceLT, List.cons_append, List.nil_append, true_or, or_true, or_false, false_or, nI_ltI, nI_leI, nI_eq, nI_clamp, zIn_nI, bI_0, nI_add, nI_mul, nI_or, nI_and, nI_shl1, nI_bit, ↓pk_rem, pk_div, Nat.lt_irrefl, Nat.not_lt_zero, reduceCtorEq, Xk.k, sK_setI, hρ, X0.x.k]
    rw [q1, lp K, stp, L_112_108, zt_112_108]
    simp (disch := omega) only [↓e_iconst0, ↓e_iconst1, ↓e_bipush0, ↓e_bipush1, ↓e_sipush0, ↓e_sipush1, ↓e_ldc0, ↓e_ldc1, ↓e_ldc_w0, ↓e_ldc_w1, ↓e_ldc2, ↓e_lconst0, ↓e_lconst1, ↓e_ldc2_w0, ↓e_ldc2_w1, ↓e_iload, ↓e_iload_n, ↓e_istore, ↓e_istore_n, ↓e_lload, ↓e_lload_n, ↓e_lstore, ↓e_lstore_n, ↓e_aload, ↓e_aload_n, ↓e_astore, ↓e_astore_n, ↓e_iinc0, ↓e_iinc1, ↓e_iadd, ↓e_isub, ↓e_imul, ↓e_iand, ↓e_ior, ↓e_ixor, ↓e_ishl, ↓e_ishr, ↓e_iushr, ↓e_ladd, ↓e_lsub, ↓e_lmul, ↓e_land, ↓e_lor, ↓e_idiv, ↓e_irem, ↓e_ldiv, ↓e_lrem, ↓e_lshl, ↓e_lcmp, ↓e_i2l, ↓e_l2i, ↓e_i2b, ↓e_i2s, ↓e_dup_int, ↓e_pop_int, ↓e_dup_ref, ↓e_pop_ref, ↓e_dup2, ↓e_goto, ↓e_nop, ↓e_ifCond_eq, ↓e_if_icmp_eq, ↓e_ifCond_ne, ↓e_if_icmp_ne, ↓e_ifCond_lt, ↓e_if_icmp_lt, ↓e_ifCond_ge, ↓e_if_icmp_ge, ↓e_ifCond_gt, ↓e_if_icmp_gt, ↓e_ifCond_le, ↓e_if_icmp_le, ↓e_tab, ↓e_look, ↓e_get0, ↓e_get1, ↓e_get2, ↓e_get3, ↓e_put0, ↓e_put1, ↓e_put2, ↓e_put3, ↓e_iaload, ↓e_laload, ↓e_baload, ↓e_aaload, ↓e_iastore, ↓e_lastore, ↓e_bastore, ↓e_aastore, ↓e_alen, ↓e_new, ↓e_newarray, ↓e_anewarray, ↓e_objinit, ↓e_virt1, ↓e_virt2, ↓e_virt3, ↓e_virt4, ↓e_virt5, ↓e_virt6, ↓e_virt7, ↓e_stat0, ↓e_stat1, ↓e_stat2, ↓e_stat3, ↓e_stat4, ↓e_stat5, ↓e_stat6, ↓e_stat7, ↓e_spec1, ↓e_spec2, ↓e_spec3, ↓e_spec4, ↓e_spec5, ↓e_strlen, ↓e_charAt, ↓e_copy, ↓e_iret0, ↓e_iret1, ↓e_lret, ↓e_aret, ↓e_vret, zIsI_int, zIsL_long, zIsA_ref, zInt_int, true_and, and_true, ↓reduceIte, zGet, zSet, zSet2, zEnt, zWid, Value.category, List.map_cons, List.map_nil, List.sum_cons, List.sum_nil, List.replicate, Option.toList, Nat.reduceAdd, Nat.reduceSub, Nat.reduceMul, Nat.reduceLeDiff, Nat.reduceEqDiff, Nat.reduceLT, List.cons_append, List.nil_append, true_or, or_true, or_false, false_or, nI_ltI, nI_leI, nI_eq, nI_clamp, zIn_nI, bI_0, nI_add, nI_mul, nI_or, nI_and, nI_shl1, nI_bit, ↓pk_rem, pk_div, Nat.lt_irrefl, Nat.not_lt_zero, reduceCtorEq, Y1.k]
    rw [wlp K, L_112_115, zt_112_115]
    simp (disch := omega) only [L_112_146, zt_112_146, ↓e_iconst0, ↓e_iconst1, ↓e_bipush0, ↓e_bipush1, ↓e_sipush0, ↓e_sipush1, ↓e_ldc0, ↓e_ldc1, ↓e_ldc_w0, ↓e_ldc_w1, ↓e_ldc2, ↓e_lconst0, ↓e_lconst1, ↓e_ldc2_w0, ↓e_ldc2_w1, ↓e_iload, ↓e_iload_n, ↓e_istore, ↓e_istore_n, ↓e_lload, ↓e_lload_n, ↓e_lstore, ↓e_lstore_n, ↓e_aload, ↓e_aload_n, ↓e_astore, ↓e_astore_n, ↓e_iinc0, ↓e_iinc1, ↓e_iadd, ↓e_isub, ↓e_imul, ↓e_iand, ↓e_ior, ↓e_ixor, ↓e_ishl, ↓e_ishr, ↓e_iushr, ↓e_ladd, ↓e_lsub, ↓e_lmul, ↓e_land, ↓e_lor, ↓e_idiv, ↓e_irem, ↓e_ldiv, ↓e_lrem, ↓e_lshl, ↓e_lcmp, ↓e_i2l, ↓e_l2i, ↓e_i2b, ↓e_i2s, ↓e_dup_int, ↓e_pop_int, ↓e_dup_ref, ↓e_pop_ref, ↓e_dup2, ↓e_goto, ↓e_nop, ↓e_ifCond_eq, ↓e_if_icmp_eq, ↓e_ifCond_ne, ↓e_if_icmp_ne, ↓e_ifCond_lt, ↓e_if_icmp_lt, ↓e_ifCond_ge, ↓e_if_icmp_ge, ↓e_ifCond_gt, ↓e_if_icmp_gt, ↓e_ifCond_le, ↓e_if_icmp_le, ↓e_tab, ↓e_look, ↓e_get0, ↓e_get1, ↓e_get2, ↓e_get3, ↓e_put0, ↓e_put1, ↓e_put2, ↓e_put3, ↓e_iaload, ↓e_laload, ↓e_baload, ↓e_aaload, ↓e_iastore, ↓e_lastore, ↓e_bastore, ↓e_aastore, ↓e_alen, ↓e_new, ↓e_newarray, ↓e_anewarray, ↓e_objinit, ↓e_virt1, ↓e_virt2, ↓e_virt3, ↓e_virt4, ↓e_virt5, ↓e_virt6, ↓e_virt7, ↓e_stat0, ↓e_stat1, ↓e_stat2, ↓e_stat3, ↓e_stat4, ↓e_stat5, ↓e_stat6, ↓e_stat7, ↓e_spec1, ↓e_spec2, ↓e_spec3, ↓e_spec4, ↓e_spec5, ↓e_strlen, ↓e_charAt, ↓e_copy, ↓e_iret0, ↓e_iret1, ↓e_lret, ↓e_aret, ↓e_vret, zIsI_int, zIsL_long, zIsA_ref, zInt_int, true_and, and_true, ↓reduceIte, zGet, zSet, zSet2, zEnt, zWid, Value.category, List.map_cons, List.map_nil, List.sum_cons, List.sum_nil, List.replicate, Option.toList, Nat.reduceAdd, Nat.reduceSub, Nat.reduceMul, Nat.reduceLeDiff, Nat.reduceEqDiff, Nat.reduceLT, List.cons_append, List.nil_append, true_or, or_true, or_false, false_or, nI_ltI, nI_leI, nI_eq, nI_clamp, zIn_nI, bI_0, nI_add, nI_mul, nI_or, nI_and, nI_shl1, nI_bit, ↓pk_rem, pk_div, Nat.lt_irrefl, Nat.not_lt_zero, reduceCtorEq, Y4.k]
/-- the class passes digits -/
theorem set_410 (σ : MS) (a b j c : Int32) : setI (setI (setI (setI σ 98 4 a) 98 10 j) 98 4 b) 98 10 c = setI (setI σ 98 4 b) 98 10 c := by
  rw [setI_comm (setI σ 98 4 a) 98 10 4 j b (by decide), setI_setI, setI_setI]
theorem c_digits (X : RTx σ) (hn : sI σ 98 11 = nI n) (hs : sI σ 98 3 = nI s) (h9 : n ≤ 900) (hb : ∀ j, j < n → bx (B j) (sI σ 99 j)) : ∀ k j, n - j = k → s ≤ j → j ≤ n → zX (d + 1) 113 10 [.ref 98] [] (setI (setI σ 98 4 (nI (dC B s (j - s)))) 98 10 (nI j)) K = zX (d + 1) 113 86 [.ref 98] [] (setI (setI σ 98 4 (nI (dC B s (skp isDi B n j - s)))) 98 10 (nI (skp isDi B n j))) K := by
  have X2 : ∀ u v, RTx (setI (setI σ 98 4 u) 98 10 v) := fun u v => X.ag ((Ag.rf.setI (p := fun b => b = 98) rfl).setI rfl)
  have n2 : ∀ u v, sI (setI (setI σ 98 4 u) 98 10 v) 98 11 = nI n := fun u v => by rw [sI_setI, if_neg (by omega), sI_setI, if_neg (by omega)]; exact hn
  have s2 : ∀ u v, sI (setI (setI σ 98 4 u) 98 10 v) 98 3 = nI s := fun u v => by rw [sI_setI, if_neg (by omega), sI_setI, if_neg (by omega)]; exact hs
  have i2 : ∀ u v, sI (setI (setI σ 98 4 u) 98 10 v) 98 10 = v := fun u v => by rw [sI_setI, if_pos ⟨rfl, rfl⟩]
  have i4 : ∀ u v, sI (setI (setI σ 98 4 u) 98 10 v) 98 4 = u := fun u v => by rw [sI_setI, if_neg (by omega), sI_setI, if_pos ⟨rfl, rfl⟩]
  have i3 : ∀ u v w, sI (setI (setI (setI σ 98 4 u) 98 10 v) 98 4 w) 98 10 = v := fun u v w => by rw [sI_setI, if_neg (by omega), i2]
  have t2 : ∀ u v j, sI (setI (setI σ 98 4 u) 98 10 v) 99 j = sI σ 99 j := fun u v j => by rw [sI_setI, if_neg (by omega), sI_setI, if_neg (by omega)]
  intro k
  induction k with
  | zero =>
    intro j h1 hsj h2
    have hj : ¬ j < n := by omega
    have Y := X2 (nI (dC B s (j - s))) (nI j)
    rw [skp_n (fun hh => hj hh.1), L_113_10, zt_113_10]
    simp (disch := omega) only [↓e_iconst0, ↓e_iconst1, ↓e_bipush0, ↓e_bipush1, ↓e_sipush0, ↓e_sipush1, ↓e_ldc0, ↓e_ldc1, ↓e_ldc_w0, ↓e_ldc_w1, ↓e_ldc2, ↓e_lconst0, ↓e_lconst1, ↓e_ldc2_w0, ↓e_ldc2_w1, ↓e_iload, ↓e_iload_n, ↓e_istore, ↓e_istore_n, ↓e_lload, ↓e_lload_n, ↓e_lstore, ↓e_lstore_n, ↓e_aload, ↓e_aload_n, ↓e_astore, ↓e_astore_n, ↓e_iinc0, ↓e_iinc1, ↓e_iadd, ↓e_isub, ↓e_imul, ↓e_iand, ↓e_ior, ↓e_ixor, ↓e_ishl, ↓e_ishr, ↓e_iushr, ↓e_ladd, ↓e_lsub, ↓e_lmul, ↓e_land, ↓e_lor, ↓e_idiv, ↓e_irem, ↓e_ldiv, ↓e_lrem, ↓e_lshl, ↓e_lcmp, ↓e_i2l, ↓e_l2i, ↓e_i2b, ↓e_i2s, ↓e_dup_int, ↓e_pop_int, ↓e_dup_ref, ↓e_pop_ref, ↓e_dup2, ↓e_goto, ↓e_nop, ↓e_ifCond_eq, ↓e_if_icmp_eq, ↓e_ifCond_ne, ↓e_if_icmp_ne, ↓e_ifCond_lt, ↓e_if_icmp_lt, ↓e_ifCond_ge, ↓e_if_icmp_ge, ↓e_ifCond_gt, ↓e_if_icmp_gt, ↓e_ifCond_le, ↓e_if_icmp_le, ↓e_tab, ↓e_look, ↓e_get0, ↓e_get1, ↓e_get2, ↓e_get3, ↓e_put0, ↓e_put1, ↓e_put2, ↓e_put3, ↓e_iaload, ↓e_laload, ↓e_baload, ↓e_aaload, ↓e_iastore, ↓e_lastore, ↓e_bastore, ↓e_aastore, ↓e_alen, ↓e_new, ↓e_newarray, ↓e_anewarray, ↓e_objinit, ↓e_virt1, ↓e_virt2, ↓e_virt3, ↓e_virt4, ↓e_virt5, ↓e_virt6, ↓e_virt7, ↓e_stat0, ↓e_stat1, ↓e_stat2, ↓e_stat3, ↓e_stat4, ↓e_stat5, ↓e_stat6, ↓e_stat7, ↓e_spec1, ↓e_spec2, ↓e_spec3, ↓e_spec4, ↓e_spec5, ↓e_strlen, ↓e_charAt, ↓e_copy, ↓e_iret0, ↓e_iret1, ↓e_lret, ↓e_aret, ↓e_vret, zIsI_int, zIsL_long, zIsA_ref, zInt_int, true_and, and_true, ↓reduceIte, zGet, zSet, zSet2, zEnt, zWid, Value.category, List.map_cons, List.map_nil, List.sum_cons, List.sum_nil, List.replicate, Option.toList, Nat.reduceAdd, Nat.reduceSub, Nat.reduceMul, Nat.reduceLeDiff, Nat.reduceEqDiff, Nat.reduceLT, List.cons_append, List.nil_append, true_or, or_true, or_false, false_or, nI_ltI, nI_leI, nI_eq, nI_clamp, zIn_nI, bI_0, nI_add, nI_mul, nI_or, nI_and, nI_shl1, nI_bit, ↓pk_rem, pk_div, Nat.lt_irrefl, Nat.not_lt_zero, reduceCtorEq, Y.k, n2, i2, hj]
  | succ k ih =>
    intro j h1 hsj h2
    have hj : j < n := by omega
    have hj9 : j < 900 := by omega
    have Y := X2 (nI (dC B s (j - s))) (nI j)
    have b := hb j hj
    rw [L_113_10, zt_113_10]
    cases e : isDi (B j) with
    | true =>
      have hle := isDi_le e
      have eb : sI σ 99 j = nI (B j) := b.2.2.1 (by omega)
      have b' : bx (B j) (nI (B j)) := by rw [← eb]; exact b
      have es : dC B s (j + 1 - s) = if j - s < 4 then dC B s (j - s) * 10 + (B j - 48) else dC B s (j - s) := by
        rw [show j + 1 - s = (j - s) + 1 by omega]
        show (if j - s < 4 then dC B s (j - s) * 10 + (B (s + (j - s)) - 48) else dC B s (j - s)) = _
        rw [show s + (j - s) = j by omega]
      rw [skp_y hj e, ← ih (j + 1) (by omega) (by omega) (by omega), es]
      by_cases h8 : j - s < 4
      · rw [if_pos h8]
        simp (disch := omega) only [L_113_73, zt_113_73, ↓e_iconst0, ↓e_iconst1, ↓e_bipush0, ↓e_bipush1, ↓e_sipush0, ↓e_sipush1, ↓e_ldc0, ↓e_ldc1, ↓e_ldc_w0, ↓e_ldc_w1, ↓e_ldc2, ↓e_lconst0, ↓e_lconst1, ↓e_ldc2_w0, ↓e_ldc2_w1, ↓e_iload, ↓e_iload_n, ↓e_istore, ↓e_istore_n, ↓e_lload, ↓e_lload_n, ↓e_lstore, ↓e_lstore_n, ↓e_aload, ↓e_aload_n, ↓e_astore, ↓e_astore_n, ↓e_iinc0, ↓e_iinc1, ↓e_iadd, ↓e_isub, ↓e_imul, ↓e_iand, ↓e_ior, ↓e_ixor, ↓e_ishl, ↓e_ishr, ↓e_iushr, ↓e_ladd, ↓e_lsub, ↓e_lmul, ↓e_land, ↓e_lor, ↓e_idiv, ↓e_irem, ↓e_ldiv, ↓e_lrem, ↓e_lshl, ↓e_lcmp, ↓e_i2l, ↓e_l2i, ↓e_i2b, ↓e_i2s, ↓e_dup_int, ↓e_pop_int, ↓e_dup_ref, ↓e_pop_ref, ↓e_dup2, ↓e_goto, ↓e_nop, ↓e_ifCond_eq, ↓e_if_icmp_eq, ↓e_ifCond_ne, ↓e_if_icmp_ne, ↓e_ifCond_lt, ↓e_if_icmp_lt, ↓e_ifCond_ge, ↓e_if_icmp_ge, ↓e_ifCond_gt, ↓e_if_icmp_gt, ↓e_ifCond_le, ↓e_if_icmp_le, ↓e_tab, ↓e_look, ↓e_get0, ↓e_get1, ↓e_get2, ↓e_get3, ↓e_put0, ↓e_put1, ↓e_put2, ↓e_put3, ↓e_iaload, ↓e_laload, ↓e_baload, ↓e_aaload, ↓e_iastore, ↓e_lastore, ↓e_bastore, ↓e_aastore, ↓e_alen, ↓e_new, ↓e_newarray, ↓e_anewarray, ↓e_objinit, ↓e_virt1, ↓e_virt2, ↓e_virt3, ↓e_virt4, ↓e_virt5, ↓e_virt6, ↓e_virt7, ↓e_stat0, ↓e_stat1, ↓e_stat2, ↓e_stat3, ↓e_stat4, ↓e_stat5, ↓e_stat6, ↓e_stat7, ↓e_spec1, ↓e_spec2, ↓e_spec3, ↓e_spec4, ↓e_spec5, ↓e_strlen, ↓e_charAt, ↓e_copy, ↓e_iret0, ↓e_iret1, ↓e_lret, ↓e_aret, ↓e_vret, zIsI_int, zIsL_long, zIsA_ref, zInt_int, true_and, and_true, ↓reduceIte, zGet, zSet, zSet2, zEnt, zWid, Value.category, List.map_cons, List.map_nil, List.sum_cons, List.sum_nil, List.replicate, Option.toList, Nat.reduceAdd, Nat.reduceSub, Nat.reduceMul, Nat.reduceLeDiff, Nat.reduceEqDiff, Nat.reduceLT, List.cons_append, List.nil_append, true_or, or_true, or_false, false_or, nI_ltI, nI_leI, nI_eq, nI_clamp, zIn_nI, bI_0, nI_add, nI_mul, nI_or, nI_and, nI_shl1, nI_bit, ↓pk_rem, pk_div, Nat.lt_irrefl, Nat.not_lt_zero, reduceCtorEq, Y.k, Y.r0, Y.k99, n2, i2, i3, i4, s2, t2, hj, hj9, eb, ↓c_isDigit b', e, nI_sub, h8, sK_setI, set_410, show bI true = nI 1 from rfl]
      · rw [if_neg h8]
        simp (disch := omega) only [L_113_73, zt_113_73, ↓e_iconst0, ↓e_iconst1, ↓e_bipush0, ↓e_bipush1, ↓e_sipush0, ↓e_sipush1, ↓e_ldc0, ↓e_ldc1, ↓e_ldc_w0, ↓e_ldc_w1, ↓e_ldc2, ↓e_lconst0, ↓e_lconst1, ↓e_ldc2_w0, ↓e_ldc2_w1, ↓e_iload, ↓e_iload_n, ↓e_istore, ↓e_istore_n, ↓e_lload, ↓e_lload_n, ↓e_lstore, ↓e_lstore_n, ↓e_aload, ↓e_aload_n, ↓e_astore, ↓e_astore_n, ↓e_iinc0, ↓e_iinc1, ↓e_iadd, ↓e_isub, ↓e_imul, ↓e_iand, ↓e_ior, ↓e_ixor, ↓e_ishl, ↓e_ishr, ↓e_iushr, ↓e_ladd, ↓e_lsub, ↓e_lmul, ↓e_land, ↓e_lor, ↓e_idiv, ↓e_irem, ↓e_ldiv, ↓e_lrem, ↓e_lshl, ↓e_lcmp, ↓e_i2l, ↓e_l2i, ↓e_i2b, ↓e_i2s, ↓e_dup_int, ↓e_pop_int, ↓e_dup_ref, ↓e_pop_ref, ↓e_dup2, ↓e_goto, ↓e_nop, ↓e_ifCond_eq, ↓e_if_icmp_eq, ↓e_ifCond_ne, ↓e_if_icmp_ne, ↓e_ifCond_lt, ↓e_if_icmp_lt, ↓e_ifCond_ge, ↓e_if_icmp_ge, ↓e_ifCond_gt, ↓e_if_icmp_gt, ↓e_ifCond_le, ↓e_if_icmp_le, ↓e_tab, ↓e_look, ↓e_get0, ↓e_get1, ↓e_get2, ↓e_get3, ↓e_put0, ↓e_put1, ↓e_put2, ↓e_put3, ↓e_iaload, ↓e_laload, ↓e_baload, ↓e_aaload, ↓e_iastore, ↓e_lastore, ↓e_bastore, ↓e_aastore, ↓e_alen, ↓e_new, ↓e_newarray, ↓e_anewarray, ↓e_objinit, ↓e_virt1, ↓e_virt2, ↓e_virt3, ↓e_virt4, ↓e_virt5, ↓e_virt6, ↓e_virt7, ↓e_stat0, ↓e_stat1, ↓e_stat2, ↓e_stat3, ↓e_stat4, ↓e_stat5, ↓e_stat6, ↓e_stat7, ↓e_spec1, ↓e_spec2, ↓e_spec3, ↓e_spec4, ↓e_spec5, ↓e_strlen, ↓e_charAt, ↓e_copy, ↓e_iret0, ↓e_iret1, ↓e_lret, ↓e_aret, ↓e_vret, zIsI_int, zIsL_long, zIsA_ref, zInt_int, true_and, and_true, ↓reduceIte, zGet, zSet, zSet2, zEnt, zWid, Value.category, List.map_cons, List.map_nil, List.sum_cons, List.sum_nil, List.replicate, Option.toList, Nat.reduceAdd, Nat.reduceSub, Nat.reduceMul, Nat.reduceLeDiff, Nat.reduceEqDiff, Nat.reduceLT, List.cons_append, List.nil_append, true_or, or_true, or_false, false_or, nI_ltI, nI_leI, nI_eq, nI_clamp, zIn_nI, bI_0, nI_add, nI_mul, nI_or, nI_and, nI_shl1, nI_bit, ↓pk_rem, pk_div, Nat.lt_irrefl, Nat.not_lt_zero, reduceCtorEq, Y.k, Y.r0, Y.k99, n2, i2, s2, t2, hj, hj9, eb, ↓c_isDigit b', e, nI_sub, h8, setI_setI, show bI true = nI 1 from rfl]
    | false =>
      rw [skp_n (fun hh => by rw [e] at hh; cases hh.2)]
      simp (disch := omega) only [↓e_iconst0, ↓e_iconst1, ↓e_bipush0, ↓e_bipush1, ↓e_sipush0, ↓e_sipush1, ↓e_ldc0, ↓e_ldc1, ↓e_ldc_w0, ↓e_ldc_w1, ↓e_ldc2, ↓e_lconst0, ↓e_lconst1, ↓e_ldc2_w0, ↓e_ldc2_w1, ↓e_iload, ↓e_iload_n, ↓e_istore, ↓e_istore_n, ↓e_lload, ↓e_lload_n, ↓e_lstore, ↓e_lstore_n, ↓e_aload, ↓e_aload_n, ↓e_astore, ↓e_astore_n, ↓e_iinc0, ↓e_iinc1, ↓e_iadd, ↓e_isub, ↓e_imul, ↓e_iand, ↓e_ior, ↓e_ixor, ↓e_ishl, ↓e_ishr, ↓e_iushr, ↓e_ladd, ↓e_lsub, ↓e_lmul, ↓e_land, ↓e_lor, ↓e_idiv, ↓e_irem, ↓e_ldiv, ↓e_lrem, ↓e_lshl, ↓e_lcmp, ↓e_i2l, ↓e_l2i, ↓e_i2b, ↓e_i2s, ↓e_dup_int, ↓e_pop_int, ↓e_dup_ref, ↓e_pop_ref, ↓e_dup2, ↓e_goto, ↓e_nop, ↓e_ifCond_eq, ↓e_if_icmp_eq, ↓e_ifCond_ne, ↓e_if_icmp_ne, ↓e_ifCond_lt, ↓e_if_icmp_lt, ↓e_ifCond_ge, ↓e_if_icmp_ge, ↓e_ifCond_gt, ↓e_if_icmp_gt, ↓e_ifCond_le, ↓e_if_icmp_le, ↓e_tab, ↓e_look, ↓e_get0, ↓e_get1, ↓e_get2, ↓e_get3, ↓e_put0, ↓e_put1, ↓e_put2, ↓e_put3, ↓e_iaload, ↓e_laload, ↓e_baload, ↓e_aaload, ↓e_iastore, ↓e_lastore, ↓e_bastore, ↓e_aastore, ↓e_alen, ↓e_new, ↓e_newarray, ↓e_anewarray, ↓e_objinit, ↓e_virt1, ↓e_virt2, ↓e_virt3, ↓e_virt4, ↓e_virt5, ↓e_virt6, ↓e_virt7, ↓e_stat0, ↓e_stat1, ↓e_stat2, ↓e_stat3, ↓e_stat4, ↓e_stat5, ↓e_stat6, ↓e_stat7, ↓e_spec1, ↓e_spec2, ↓e_spec3, ↓e_spec4, ↓e_spec5, ↓e_strlen, ↓e_charAt, ↓e_copy, ↓e_iret0, ↓e_iret1, ↓e_lret, ↓e_aret, ↓e_vret, zIsI_int, zIsL_long, zIsA_ref, zInt_int, true_and, and_true, ↓reduceIte, zGet, zSet, zSet2, zEnt, zWid, Value.category, List.map_cons, List.map_nil, List.sum_cons, List.sum_nil, List.replicate, Option.toList, Nat.reduceAdd, Nat.reduceSub, Nat.reduceMul, Nat.reduceLeDiff, Nat.reduceEqDiff, Nat.reduceLT, List.cons_append, List.nil_append, true_or, or_true, or_false, false_or, nI_ltI, nI_leI, nI_eq, nI_clamp, zIn_nI, bI_0, nI_add, nI_mul, nI_or, nI_and, nI_shl1, nI_bit, ↓pk_rem, pk_div, Nat.lt_irrefl, Nat.not_lt_zero, reduceCtorEq, Y.k, Y.r0, Y.k99, n2, i2, t2, hj, hj9, ↓c_isDigit b, e, show bI false = nI 0 from rfl]
theorem c_passDigits (X : RTb σ B n) (h9 : n ≤ 900) (h3 : sI σ 98 3 = nI s) (h10 : sI σ 98 10 = nI s) (hs : s < n) (hl : isDi (B s) = true) :
   ∃ τ, TaF σ τ ∧ RTk τ B n (if skp isDi B n s - s ≤ 4 then 3 else 1, s, skp isDi B n s) ∧ ∀ K, zC (d + 2) 113 [.ref 98] σ K = K none τ := by
  have f0 : TaF σ (setI σ 98 2 (nI 3)) := TaF.rf.setI (by omega)
  have X0 := X.ta f0
  have g3 : sI (setI σ 98 2 (nI 3)) 98 3 = nI s := by rw [sI_setI, if_neg (by omega)]; exact h3
  have g10 : sI (setI σ 98 2 (nI 3)) 98 10 = nI s := by rw [sI_setI, if_neg (by omega)]; exact h10
  have g2 : sI (setI σ 98 2 (nI 3)) 98 2 = nI 3 := by rw [sI_setI, if_pos ⟨rfl, rfl⟩]
  have Xk := X.x
  generalize hρ : setI σ 98 2 (nI 3) = ρ at f0 X0 g3 g10 g2
  obtain ⟨e, he⟩ : ∃ e, skp isDi B n s = e := ⟨_, rfl⟩
  have e1 : s < e := by rw [← he, skp_y hs hl]; have := skp_ge (f := isDi) (B := B) (n := n) (j := s + 1) (by omega); omega
  have e2 : e ≤ n := by rw [← he]; exact skp_le (by omega)
  rw [he]
  have lp := fun K => c_digits (d := d) (K := K) X0.x X0.len g3 h9 X0.b (n - s) s rfl (Nat.le_refl _) (by omega)
  rw [Nat.sub_self, he] at lp
  have f1 : TaF ρ (setI (setI ρ 98 4 (nI (dC B s (e - s)))) 98 10 (nI e)) := (TaF.rf.setI (by omega)).setI (by omega)
  have X1 := X0.ta f1
  have f3 : sI (setI (setI ρ 98 4 (nI (dC B s (e - s)))) 98 10 (nI e)) 98 3 = nI s := by rw [sI_setI, if_neg (by omega), sI_setI, if_neg (by omega)]; exact g3
  have f2 : sI (setI (setI ρ 98 4 (nI (dC B s (e - s)))) 98 10 (nI e)) 98 2 = nI 3 := by rw [sI_setI, if_neg (by omega), sI_setI, if_neg (by omega)]; exact g2
  have f4 : sI (setI (setI ρ 98 4 (nI (dC B s (e - s)))) 98 10 (nI e)) 98 4 = nI (dC B s (e - s)) := by rw [sI_setI, if_neg (by omega), sI_setI, if_pos ⟨rfl, rfl⟩]
  have f10 : sI (setI (setI ρ 98 4 (nI (dC B s (e - s)))) 98 10 (nI e)) 98 10 = nI e := by rw [sI_setI, if_pos ⟨rfl, rfl⟩]
  have q1 : setI ρ 98 4 (nI (dC B s 0)) = setI (setI ρ 98 4 (nI (dC B s 0))) 98 10 (nI s) := (setI_keep (by rw [sI_setI, if_neg (by omega)]; exact g10)).symm
  have ent : ∀ K, zC (d + 2) 113 [.ref 98] σ K = zX (d + 1) 113 86 [.ref 98] [] (setI (setI ρ 98 4 (nI (dC B s (e - s)))) 98 10 (nI e)) K := fun K => by
    rw [← lp K, ← q1, E_113]
    simp (disch := omega) only [L_113_0, zt_113_0, ↓e_iconst0, ↓e_iconst1, ↓e_bipush0, ↓e_bipush1, ↓e_sipush0, ↓e_sipush1, ↓e_ldc0, ↓e_ldc1, ↓e_ldc_w0, ↓e_ldc_w1, ↓e_ldc2, ↓e_lconst0, ↓e_lconst1, ↓e_ldc2_w0, ↓e_ldc2_w1, ↓e_iload, ↓e_iload_n, ↓e_istore, ↓e_istore_n, ↓e_lload, ↓e_lload_n, ↓e_lstore, ↓e_lstore_n, ↓e_aload, ↓e_aload_n, ↓e_astore, ↓e_astore_n, ↓e_iinc0, ↓e_iinc1, ↓e_iadd, ↓e_isub, ↓e_imul, ↓e_iand, ↓e_ior, ↓e_ixor, ↓e_ishl, ↓e_ishr, ↓e_iushr, ↓e_ladd, ↓e_lsub, ↓e_lmul, ↓e_land, ↓e_lor, ↓e_idiv, ↓e_irem, ↓e_ldiv, ↓e_lrem, ↓e_lshl, ↓e_lcmp, ↓e_i2l, ↓e_l2i, ↓e_i2b, ↓e_i2s, ↓e_dup_int, ↓e_pop_int, ↓e_dup_ref, ↓e_pop_ref, ↓e_dup2, ↓e_goto, ↓e_nop, ↓e_ifCond_eq, ↓e_if_icmp_eq, ↓e_ifCond_ne, ↓e_if_icmp_ne, ↓e_ifCond_lt, ↓e_if_icmp_lt, ↓e_ifCond_ge, ↓e_if_icmp_ge, ↓e_ifCond_gt, ↓e_if_icmp_gt, ↓e_ifCond_le, ↓e_if_icmp_le, ↓e_tab, ↓e_look, ↓e_get0, ↓e_get1, ↓e_get2, ↓e_get3, ↓e_put0, ↓e_put1, ↓e_put2, ↓e_put3, ↓e_iaload, ↓e_laload, ↓e_baload, ↓e_aaload, ↓e_iastore, ↓e_lastore, ↓e_bastore, ↓e_aastore, ↓e_alen, ↓e_new, ↓e_newarray, ↓e_anewarray, ↓e_objinit, ↓e_virt1, ↓e_virt2, ↓e_virt3, ↓e_virt4, ↓e_virt5, ↓e_virt6, ↓e_virt7, ↓e_stat0, ↓e_stat1, ↓e_stat2, ↓e_stat3, ↓e_stat4, ↓e_stat5, ↓e_stat6, ↓e_stat7, ↓e_spec1, ↓e_spec2, ↓e_spec3, ↓e_spec4, ↓e_spec5, ↓e_strlen, ↓e_charAt, ↓e_copy, ↓e_iret0, ↓e_iret1, ↓e_lret, ↓e_aret, ↓e_vret, zIsI_int, zIsL_long, zIsA_ref, zInt_int, true_and, and_true, ↓reduceIte, zGet, zSet, zSet2, zEnt, zWid, Value.category, List.map_cons, List.map_nil, List.sum_cons, List.sum_nil, List.replicate, Option.toList, Nat.reduceAdd, Nat.reduceSub, Nat.reduceMul, Nat.reduceLeDiff, Nat.reduceEqDiff, Nat.reduceLT, List.cons_append, List.nil_append, true_or, or_true, or_false, false_or, nI_ltI, nI_leI, nI_eq, nI_clamp, zIn_nI, bI_0, nI_add, nI_mul, nI_or, nI_and, nI_shl1, nI_bit, ↓pk_rem, pk_div, Nat.lt_irrefl, Nat.not_lt_zero, reduceCtorEq, Xk.k, sK_setI, hρ, X0.x.k, show dC B s 0 = 0 from rfl]
  generalize setI (setI ρ 98 4 (nI (dC B s (e - s)))) 98 10 (nI e) = π at f1 X1 f2 f3 f4 f10 ent
  by_cases h4 : e - s ≤ 4
  · rw [if_pos h4]
    refine ⟨π, f0.tr f1, RTk.mk X1 f2 f3 f10 (fun _ => f4) (fun h => by cases h) (fun h => by cases h) (fun h => by cases h), fun K => ?_⟩
    have h4' : ¬ 4 < e - s := by omega
    rw [ent K, L_113_86, zt_113_86]
    simp (disch := omega) only [L_113_104, zt_113_104, ↓e_iconst0, ↓e_iconst1, ↓e_bipush0, ↓e_bipush1, ↓e_sipush0, ↓e_sipush1, ↓e_ldc0, ↓e_ldc1, ↓e_ldc_w0, ↓e_ldc_w1, ↓e_ldc2, ↓e_lconst0, ↓e_lconst1, ↓e_ldc2_w0, ↓e_ldc2_w1, ↓e_iload, ↓e_iload_n, ↓e_istore, ↓e_istore_n, ↓e_lload, ↓e_lload_n, ↓e_lstore, ↓e_lstore_n, ↓e_aload, ↓e_aload_n, ↓e_astore, ↓e_astore_n, ↓e_iinc0, ↓e_iinc1, ↓e_iadd, ↓e_isub, ↓e_imul, ↓e_iand, ↓e_ior, ↓e_ixor, ↓e_ishl, ↓e_ishr, ↓e_iushr, ↓e_ladd, ↓e_lsub, ↓e_lmul, ↓e_land, ↓e_lor, ↓e_idiv, ↓e_irem, ↓e_ldiv, ↓e_lrem, ↓e_lshl, ↓e_lcmp, ↓e_i2l, ↓e_l2i, ↓e_i2b, ↓e_i2s, ↓e_dup_int, ↓e_pop_int, ↓e_dup_ref, ↓e_pop_ref, ↓e_dup2, ↓e_goto, ↓e_nop, ↓e_ifCond_eq, ↓e_if_icmp_eq, ↓e_ifCond_ne, ↓e_if_icmp_ne, ↓e_ifCond_lt, ↓e_if_icmp_lt, ↓e_ifCond_ge, ↓e_if_icmp_ge, ↓e_ifCond_gt, ↓e_if_icmp_gt, ↓e_ifCond_le, ↓e_if_icmp_le, ↓e_tab, ↓e_look, ↓e_get0, ↓e_get1, ↓e_get2, ↓e_get3, ↓e_put0, ↓e_put1, ↓e_put2, ↓e_put3, ↓e_iaload, ↓e_laload, ↓e_baload, ↓e_aaload, ↓e_iastore, ↓e_lastore, ↓e_bastore, ↓e_aastore, ↓e_alen, ↓e_new, ↓e_newarray, ↓e_anewarray, ↓e_objinit, ↓e_virt1, ↓e_virt2, ↓e_virt3, ↓e_virt4, ↓e_virt5, ↓e_virt6, ↓e_virt7, ↓e_stat0, ↓e_stat1, ↓e_stat2, ↓e_stat3, ↓e_stat4, ↓e_stat5, ↓e_stat6, ↓e_stat7, ↓e_spec1, ↓e_spec2, ↓e_spec3, ↓e_spec4, ↓e_spec5, ↓e_strlen, ↓e_charAt, ↓e_copy, ↓e_iret0, ↓e_iret1, ↓e_lret, ↓e_aret, ↓e_vret, zIsI_int, zIsL_long, zIsA_ref, zInt_int, true_and, and_true, ↓reduceIte, zGet, zSet, zSet2, zEnt, zWid, Value.category, List.map_cons, List.map_nil, List.sum_cons, List.sum_nil, List.replicate, Option.toList, Nat.reduceAdd, Nat.reduceSub, Nat.reduceMul, Nat.reduceLeDiff, Nat.reduceEqDiff, Nat.reduceLT, List.cons_append, List.nil_append, true_or, or_true, or_false, false_or, nI_ltI, nI_leI, nI_eq, nI_clamp, zIn_nI, bI_0, nI_add, nI_mul, nI_or, nI_and, nI_shl1, nI_bit, ↓pk_rem, pk_div, Nat.lt_irrefl, Nat.not_lt_zero, reduceCtorEq, X1.x.k, f3, f10, nI_sub, h4']
  · rw [if_neg h4]
    refine ⟨setI π 98 2 (nI 1), (f0.tr f1).setI (by omega), RTk.mk (X1.ta (TaF.rf.setI (by omega))) ?_ ?_ ?_ (fun h => by cases h) (fun h => by cases h) (fun h => by cases h) (fun h => by cases h), fun K => ?_⟩
    · rw [sI_setI, if_pos ⟨rfl, rfl⟩]
    · rw [sI_setI, if_neg (by omega)]; exact f3
    · rw [sI_setI, if_neg (by omega)]; exact f10
    · have h4' : 4 < e - s := by omega
      rw [ent K, L_113_86, zt_113_86]
      simp (disch := omega) only [L_113_104, zt_113_104, ↓e_iconst0, ↓e_iconst1, ↓e_bipush0, ↓e_bipush1, ↓e_sipush0, ↓e_sipush1, ↓e_ldc0, ↓e_ldc1, ↓e_ldc_w0, ↓e_ldc_w1, ↓e_ldc2, ↓e_lconst0, ↓e_lconst1, ↓e_ldc2_w0, ↓e_ldc2_w1, ↓e_iload, ↓e_iload_n, ↓e_istore, ↓e_istore_n, ↓e_lload, ↓e_lload_n, ↓e_lstore, ↓e_lstore_n, ↓e_aload, ↓e_aload_n, ↓e_astore, ↓e_astore_n, ↓e_iinc0, ↓e_iinc1, ↓e_iadd, ↓e_isub, ↓e_imul, ↓e_iand, ↓e_ior, ↓e_ixor, ↓e_ishl, ↓e_ishr, ↓e_iushr, ↓e_ladd, ↓e_lsub, ↓e_lmul, ↓e_land, ↓e_lor, ↓e_idiv, ↓e_irem, ↓e_ldiv, ↓e_lrem, ↓e_lshl, ↓e_lcmp, ↓e_i2l, ↓e_l2i, ↓e_i2b, ↓e_i2s, ↓e_dup_int, ↓e_pop_int, ↓e_dup_ref, ↓e_pop_ref, ↓e_dup2, ↓e_goto, ↓e_nop, ↓e_ifCond_eq, ↓e_if_icmp_eq, ↓e_ifCond_ne, ↓e_if_icmp_ne, ↓e_ifCond_lt, ↓e_if_icmp_lt, ↓e_ifCond_ge, ↓e_if_icmp_ge, ↓e_ifCond_gt, ↓e_if_icmp_gt, ↓e_ifCond_le, ↓e_if_icmp_le, ↓e_tab, ↓e_look, ↓e_get0, ↓e_get1, ↓e_get2, ↓e_get3, ↓e_put0, ↓e_put1, ↓e_put2, ↓e_put3, ↓e_iaload, ↓e_laload, ↓e_baload, ↓e_aaload, ↓e_iastore, ↓e_lastore, ↓e_bastore, ↓e_aastore, ↓e_alen, ↓e_new, ↓e_newarray, ↓e_anewarray, ↓e_objinit, ↓e_virt1, ↓e_virt2, ↓e_virt3, ↓e_virt4, ↓e_virt5, ↓e_virt6, ↓e_virt7, ↓e_stat0, ↓e_stat1, ↓e_stat2, ↓e_stat3, ↓e_stat4, ↓e_stat5, ↓e_stat6, ↓e_stat7, ↓e_spec1, ↓e_spec2, ↓e_spec3, ↓e_spec4, ↓e_spec5, ↓e_strlen, ↓e_charAt, ↓e_copy, ↓e_iret0, ↓e_iret1, ↓e_lret, ↓e_aret, ↓e_vret, zIsI_int, zIsL_long, zIsA_ref, zInt_int, true_and, and_true, ↓reduceIte, zGet, zSet, zSet2, zEnt, zWid, Value.category, List.map_cons, List.map_nil, List.sum_cons, List.sum_nil, List.replicate, Option.toList, Nat.reduceAdd, Nat.reduceSub, Nat.reduceMul, Nat.reduceLeDiff, Nat.reduceEqDiff, Nat.reduceLT, List.cons_append, List.nil_append, true_or, or_true, or_false, false_or, nI_ltI, nI_leI, nI_eq, nI_clamp, zIn_nI, bI_0, nI_add, nI_mul, nI_or, nI_and, nI_shl1, nI_bit, ↓pk_rem, pk_div, Nat.lt_irrefl, Nat.not_lt_zero, reduceCtorEq, X1.x.k, f3, f10, nI_sub, h4']
theorem isSg_lt {k : Nat} (h : isSg k = true) : k < 128 := by
  unfold isSg at h
  simp only [Bool.or_eq_true, beq_iff_eq] at h
  omega
/-- the class's advance -/
theorem c_advance {j : Nat} (X : RTb σ B n) (h9 : n ≤ 900) (h10 : sI σ 98 10 = nI j) (hj : j ≤ n) :
   ∃ τ, TaF σ τ ∧ RTk τ B n (tk B n j) ∧ ∀ K, zC (d + 3) 111 [.ref 98] σ K = K none τ := by
  obtain ⟨s, hs⟩ : ∃ s, skp isBl B n j = s := ⟨_, rfl⟩
  have s2 : s ≤ n := by rw [← hs]; exact skp_le hj
  have lp := fun K => c_blanks (d := d + 1) (K := K) X.x X.len h9 X.b (n - j) j rfl hj
  rw [setI_keep h10, hs] at lp
  have f1 : TaF σ (setI (setI σ 98 10 (nI s)) 98 3 (nI s)) := (TaF.rf.setI (by omega)).setI (by omega)
  have X1 := X.ta f1
  have a10 : sI (setI (setI σ 98 10 (nI s)) 98 3 (nI s)) 98 10 = nI s := by rw [sI_setI, if_neg (by omega), sI_setI, if_pos ⟨rfl, rfl⟩]
  have a3 : sI (setI (setI σ 98 10 (nI s)) 98 3 (nI s)) 98 3 = nI s := by rw [sI_setI, if_pos ⟨rfl, rfl⟩]
  have Xk : RTx (setI σ 98 10 (nI s)) := X.x.ag (Ag.rf.setI (p := fun b => b = 98) rfl)
  have b10 : sI (setI σ 98 10 (nI s)) 98 10 = nI s := by rw [sI_setI, if_pos ⟨rfl, rfl⟩]
  have ent : ∀ K, zC (d + 3) 111 [.ref 98] σ K = zX (d + 2) 111 39 [.ref 98] [] (setI σ 98 10 (nI s)) K := fun K => by
    rw [← lp K, E_111]
  unfold tk tkAt
  rw [hs]
  have hL : (setI (setI σ 98 10 (nI s)) 98 3 (nI s)) = (setI (setI σ 98 10 (nI s)) 98 3 (nI s)) := rfl
  generalize hρ : setI (setI σ 98 10 (nI s)) 98 3 (nI s) = ρ at f1 X1 a10 a3
  have n11 := X1.len
  by_cases hn : n ≤ s
  · rw [if_pos hn]
    have hn' : ¬ s < n := by omega
    refine ⟨setI ρ 98 2 (nI 0), f1.setI (by omega), RTk.mk (X1.ta (TaF.rf.setI (by omega))) ?_ ?_ ?_ (fun h => by cases h) (fun h => by cases h) (fun h => by cases h) (fun h => by cases h), fun K => ?_⟩
    · rw [sI_setI, if_pos ⟨rfl, rfl⟩]
    · rw [sI_setI, if_neg (by omega)]; exact a3
    · rw [sI_setI, if_neg (by omega)]; exact a10
    · rw [ent K, L_111_39, zt_111_39]
      simp (disch := omega) only [L_111_152, zt_111_152, ↓e_iconst0, ↓e_iconst1, ↓e_bipush0, ↓e_bipush1, ↓e_sipush0, ↓e_sipush1, ↓e_ldc0, ↓e_ldc1, ↓e_ldc_w0, ↓e_ldc_w1, ↓e_ldc2, ↓e_lconst0, ↓e_lconst1, ↓e_ldc2_w0, ↓e_ldc2_w1, ↓e_iload, ↓e_iload_n, ↓e_istore, ↓e_istore_n, ↓e_lload, ↓e_lload_n, ↓e_lstore, ↓e_lstore_n, ↓e_aload, ↓e_aload_n, ↓e_astore, ↓e_astore_n, ↓e_iinc0, ↓e_iinc1, ↓e_iadd, ↓e_isub, ↓e_imul, ↓e_iand, ↓e_ior, ↓e_ixor, ↓e_ishl, ↓e_ishr, ↓e_iushr, ↓e_ladd, ↓e_lsub, ↓e_lmul, ↓e_land, ↓e_lor, ↓e_idiv, ↓e_irem, ↓e_ldiv, ↓e_lrem, ↓e_lshl, ↓e_lcmp, ↓e_i2l, ↓e_l2i, ↓e_i2b, ↓e_i2s, ↓e_dup_int, ↓e_pop_int, ↓e_dup_ref, ↓e_pop_ref, ↓e_dup2, ↓e_goto, ↓e_nop, ↓e_ifCond_eq, ↓e_if_icmp_eq, ↓e_ifCond_ne, ↓e_if_icmp_ne, ↓e_ifCond_lt, ↓e_if_icmp_lt, ↓e_ifCond_ge, ↓e_if_icmp_ge, ↓e_ifCond_gt, ↓e_if_icmp_gt, ↓e_ifCond_le, ↓e_if_icmp_le, ↓e_tab, ↓e_look, ↓e_get0, ↓e_get1, ↓e_get2, ↓e_get3, ↓e_put0, ↓e_put1, ↓e_put2, ↓e_put3, ↓e_iaload, ↓e_laload, ↓e_baload, ↓e_aaload, ↓e_iastore, ↓e_lastore, ↓e_bastore, ↓e_aastore, ↓e_alen, ↓e_new, ↓e_newarray, ↓e_anewarray, ↓e_objinit, ↓e_virt1, ↓e_virt2, ↓e_virt3, ↓e_virt4, ↓e_virt5, ↓e_virt6, ↓e_virt7, ↓e_stat0, ↓e_stat1, ↓e_stat2, ↓e_stat3, ↓e_stat4, ↓e_stat5, ↓e_stat6, ↓e_stat7, ↓e_spec1, ↓e_spec2, ↓e_spec3, ↓e_spec4, ↓e_spec5, ↓e_strlen, ↓e_charAt, ↓e_copy, ↓e_iret0, ↓e_iret1, ↓e_lret, ↓e_aret, ↓e_vret, zIsI_int, zIsL_long, zIsA_ref, zInt_int, true_and, and_true, ↓reduceIte, zGet, zSet, zSet2, zEnt, zWid, Value.category, List.map_cons, List.map_nil, List.sum_cons, List.sum_nil, List.replicate, Option.toList, Nat.reduceAdd, Nat.reduceSub, Nat.reduceMul, Nat.reduceLeDiff, Nat.reduceEqDiff, Nat.reduceLT, List.cons_append, List.nil_append, true_or, or_true, or_false, false_or, nI_ltI, nI_leI, nI_eq, nI_clamp, zIn_nI, bI_0, nI_add, nI_mul, nI_or, nI_and, nI_shl1, nI_bit, ↓pk_rem, pk_div, Nat.lt_irrefl, Nat.not_lt_zero, reduceCtorEq, Xk.k, b10, hρ, X1.x.k, a10, n11, hn']
  · rw [if_neg hn]
    have hn' : s < n := by omega
    have s9 : s < 900 := by omega
    have b := X1.b s hn'
    by_cases hl : isLe (B s) = true
    · rw [if_pos hl]
      obtain ⟨τ, f2, X2, e2⟩ := c_passLetters (d := d) X1 h9 a3 a10 hn' hl
      refine ⟨τ, f1.tr f2, X2, fun K => ?_⟩
      rw [ent K, L_111_39, zt_111_39]
      simp (disch := omega) only [L_111_66, zt_111_66, L_111_152, zt_111_152, ↓e_iconst0, ↓e_iconst1, ↓e_bipush0, ↓e_bipush1, ↓e_sipush0, ↓e_sipush1, ↓e_ldc0, ↓e_ldc1, ↓e_ldc_w0, ↓e_ldc_w1, ↓e_ldc2, ↓e_lconst0, ↓e_lconst1, ↓e_ldc2_w0, ↓e_ldc2_w1, ↓e_iload, ↓e_iload_n, ↓e_istore, ↓e_istore_n, ↓e_lload, ↓e_lload_n, ↓e_lstore, ↓e_lstore_n, ↓e_aload, ↓e_aload_n, ↓e_astore, ↓e_astore_n, ↓e_iinc0, ↓e_iinc1, ↓e_iadd, ↓e_isub, ↓e_imul, ↓e_iand, ↓e_ior, ↓e_ixor, ↓e_ishl, ↓e_ishr, ↓e_iushr, ↓e_ladd, ↓e_lsub, ↓e_lmul, ↓e_land, ↓e_lor, ↓e_idiv, ↓e_irem, ↓e_ldiv, ↓e_lrem, ↓e_lshl, ↓e_lcmp, ↓e_i2l, ↓e_l2i, ↓e_i2b, ↓e_i2s, ↓e_dup_int, ↓e_pop_int, ↓e_dup_ref, ↓e_pop_ref, ↓e_dup2, ↓e_goto, ↓e_nop, ↓e_ifCond_eq, ↓e_if_icmp_eq, ↓e_ifCond_ne, ↓e_if_icmp_ne, ↓e_ifCond_lt, ↓e_if_icmp_lt, ↓e_ifCond_ge, ↓e_if_icmp_ge, ↓e_ifCond_gt, ↓e_if_icmp_gt, ↓e_ifCond_le, ↓e_if_icmp_le, ↓e_tab, ↓e_look, ↓e_get0, ↓e_get1, ↓e_get2, ↓e_get3, ↓e_put0, ↓e_put1, ↓e_put2, ↓e_put3, ↓e_iaload, ↓e_laload, ↓e_baload, ↓e_aaload, ↓e_iastore, ↓e_lastore, ↓e_bastore, ↓e_aastore, ↓e_alen, ↓e_new, ↓e_newarray, ↓e_anewarray, ↓e_objinit, ↓e_virt1, ↓e_virt2, ↓e_virt3, ↓e_virt4, ↓e_virt5, ↓e_virt6, ↓e_virt7, ↓e_stat0, ↓e_stat1, ↓e_stat2, ↓e_stat3, ↓e_stat4, ↓e_stat5, ↓e_stat6, ↓e_stat7, ↓e_spec1, ↓e_spec2, ↓e_spec3, ↓e_spec4, ↓e_spec5, ↓e_strlen, ↓e_charAt, ↓e_copy, ↓e_iret0, ↓e_iret1, ↓e_lret, ↓e_aret, ↓e_vret, zIsI_int, zIsL_long, zIsA_ref, zInt_int, true_and, and_true, ↓reduceIte, zGet, zSet, zSet2, zEnt, zWid, Value.category, List.map_cons, List.map_nil, List.sum_cons, List.sum_nil, List.replicate, Option.toList, Nat.reduceAdd, Nat.reduceSub, Nat.reduceMul, Nat.reduceLeDiff, Nat.reduceEqDiff, Nat.reduceLT, List.cons_append, List.nil_append, true_or, or_true, or_false, false_or, nI_ltI, nI_leI, nI_eq, nI_clamp, zIn_nI, bI_0, nI_add, nI_mul, nI_or, nI_and, nI_shl1, nI_bit, ↓pk_rem, pk_div, Nat.lt_irrefl, Nat.not_lt_zero, reduceCtorEq, Xk.k, b10, hρ, X1.x.k, X1.x.r0, X1.x.k99, a10, n11, hn', s9, ↓c_isLetter b, hl, ↓e2, show bI true = nI 1 from rfl]
    · rw [if_neg hl]
      have hl' : isLe (B s) = false := by simpa using hl
      by_cases hd : isDi (B s) = true
      · rw [if_pos hd]
        obtain ⟨τ, f2, X2, e2⟩ := c_passDigits (d := d) X1 h9 a3 a10 hn' hd
        refine ⟨τ, f1.tr f2, X2, fun K => ?_⟩
        rw [ent K, L_111_39, zt_111_39]
        simp (disch := omega) only [L_111_66, zt_111_66, L_111_88, zt_111_88, L_111_152, zt_111_152, ↓e_iconst0, ↓e_iconst1, ↓e_bipush0, ↓e_bipush1, ↓e_sipush0, ↓e_sipush1, ↓e_ldc0, ↓e_ldc1, ↓e_ldc_w0, ↓e_ldc_w1, ↓e_ldc2, ↓e_lconst0, ↓e_lconst1, ↓e_ldc2_w0, ↓e_ldc2_w1, ↓e_iload, ↓e_iload_n, ↓e_istore, ↓e_istore_n, ↓e_lload, ↓e_lload_n, ↓e_lstore, ↓e_lstore_n, ↓e_aload, ↓e_aload_n, ↓e_astore, ↓e_astore_n, ↓e_iinc0, ↓e_iinc1, ↓e_iadd, ↓e_isub, ↓e_imul, ↓e_iand, ↓e_ior, ↓e_ixor, ↓e_ishl, ↓e_ishr, ↓e_iushr, ↓e_ladd, ↓e_lsub, ↓e_lmul, ↓e_land, ↓e_lor, ↓e_idiv, ↓e_irem, ↓e_ldiv, ↓e_lrem, ↓e_lshl, ↓e_lcmp, ↓e_i2l, ↓e_l2i, ↓e_i2b, ↓e_i2s, ↓e_dup_int, ↓e_pop_int, ↓e_dup_ref, ↓e_pop_ref, ↓e_dup2, ↓e_goto, ↓e_nop, ↓e_ifCond_eq, ↓e_if_icmp_eq, ↓e_ifCond_ne, ↓e_if_icmp_ne, ↓e_ifCond_lt, ↓e_if_icmp_lt, ↓e_ifCond_ge, ↓e_if_icmp_ge, ↓e_ifCond_gt, ↓e_if_icmp_gt, ↓e_ifCond_le, ↓e_if_icmp_le, ↓e_tab, ↓e_look, ↓e_get0, ↓e_get1, ↓e_get2, ↓e_get3, ↓e_put0, ↓e_put1, ↓e_put2, ↓e_put3, ↓e_iaload, ↓e_laload, ↓e_baload, ↓e_aaload, ↓e_iastore, ↓e_lastore, ↓e_bastore, ↓e_aastore, ↓e_alen, ↓e_new, ↓e_newarray, ↓e_anewarray, ↓e_objinit, ↓e_virt1, ↓e_virt2, ↓e_virt3, ↓e_virt4, ↓e_virt5, ↓e_virt6, ↓e_virt7, ↓e_stat0, ↓e_stat1, ↓e_stat2, ↓e_stat3, ↓e_stat4, ↓e_stat5, ↓e_stat6, ↓e_stat7, ↓e_spec1, ↓e_spec2, ↓e_spec3, ↓e_spec4, ↓e_spec5, ↓e_strlen, ↓e_charAt, ↓e_copy, ↓e_iret0, ↓e_iret1, ↓e_lret, ↓e_aret, ↓e_vret, zIsI_int, zIsL_long, zIsA_ref, zInt_int, true_and, and_true, ↓reduceIte, zGet, zSet, zSet2, zEnt, zWid, Value.category, List.map_cons, List.map_nil, List.sum_cons, List.sum_nil, List.replicate, Option.toList, Nat.reduceAdd, Nat.reduceSub, Nat.reduceMul, Nat.reduceLeDiff, Nat.reduceEqDiff, Nat.reduceLT, List.cons_append, List.nil_append, true_or, or_true, or_false, false_or, nI_ltI, nI_leI, nI_eq, nI_clamp, zIn_nI, bI_0, nI_add, nI_mul, nI_or, nI_and, nI_shl1, nI_bit, ↓pk_rem, pk_div, Nat.lt_irrefl, Nat.not_lt_zero, reduceCtorEq, Xk.k, b10, hρ, X1.x.k, X1.x.r0, X1.x.k99, a10, n11, hn', s9, ↓c_isLetter b, hl', ↓c_isDigit b, hd, ↓e2, show bI true = nI 1 from rfl, show bI false = nI 0 from rfl]
      · rw [if_neg hd]
        have hd' : isDi (B s) = false := by simpa using hd
        obtain ⟨x, hx⟩ : ∃ x, sI ρ 99 s = x := ⟨_, rfl⟩
        rw [hx] at b
        have Xa : ∀ u, RTx (setI ρ 98 5 u) := fun u => X1.x.ag (Ag.rf.setI (p := fun b => b = 98) rfl)
        have c5 : sI (setI ρ 98 5 x) 98 5 = x := by rw [sI_setI, if_pos ⟨rfl, rfl⟩]
        have c10 : ∀ v, sI (setI (setI ρ 98 5 x) 98 2 v) 98 10 = nI s := fun v => by rw [sI_setI, if_neg (by omega), sI_setI, if_neg (by omega)]; exact a10
        have f3 : ∀ v, TaF ρ (setI (setI (setI ρ 98 5 x) 98 2 v) 98 10 (nI (s + 1))) := fun v => ((TaF.rf.setI (by omega)).setI (by omega)).setI (by omega)
        refine ⟨setI (setI (setI ρ 98 5 x) 98 2 (nI (if isSg (B s) = true then 4 else 1))) 98 10 (nI (s + 1)), f1.tr (f3 _), RTk.mk (X1.ta (f3 _)) ?_ ?_ ?_ (fun h => ?_) (fun h => ?_) (fun h => ?_) (fun h => ?_), fun K => ?_⟩
        · rw [sI_setI, if_neg (by omega), sI_setI, if_pos ⟨rfl, rfl⟩]
        · rw [sI_setI, if_neg (by omega), sI_setI, if_neg (by omega), sI_setI, if_neg (by omega)]; exact a3
        · rw [sI_setI, if_pos ⟨rfl, rfl⟩]
        · exfalso
          have h : (if isSg (B s) = true then 4 else 1) = 3 := h
          split at h <;> omega
        · have h : (if isSg (B s) = true then 4 else 1) = 4 := h
          have hg : isSg (B s) = true := by
            split at h
            · assumption
            · omega
          rw [sI_setI, if_neg (by omega), sI_setI, if_neg (by omega), c5]
          exact b.2.2.1 (isSg_lt hg)
        · exfalso
          have h : (if isSg (B s) = true then 4 else 1) = 2 := h
          split at h <;> omega
        · exfalso
          have h : (if isSg (B s) = true then 4 else 1) = 2 := h
          split at h <;> omega
        · have Ya := Xa x
          rw [ent K, L_111_39, zt_111_39]
          have b0 : bx (B s) (sI ρ 99 s) := by rw [hx]; exact b
          cases hg : isSg (B s) with
          | true => simp (disch := omega) only [L_111_66, zt_111_66, L_111_88, zt_111_88, L_111_110, zt_111_110, L_111_138, zt_111_138, L_111_139, zt_111_139, L_111_152, zt_111_152, ↓e_iconst0, ↓e_iconst1, ↓e_bipush0, ↓e_bipush1, ↓e_sipush0, ↓e_sipush1, ↓e_ldc0, ↓e_ldc1, ↓e_ldc_w0, ↓e_ldc_w1, ↓e_ldc2, ↓e_lconst0, ↓e_lconst1, ↓e_ldc2_w0, ↓e_ldc2_w1, ↓e_iload, ↓e_iload_n, ↓e_istore, ↓e_istore_n, ↓e_lload, ↓e_lload_n, ↓e_lstore, ↓e_lstore_n, ↓e_aload, ↓e_aload_n, ↓e_astore, ↓e_astore_n, ↓e_iinc0, ↓e_iinc1, ↓e_iadd, ↓e_isub, ↓e_imul, ↓e_iand, ↓e_ior, ↓e_ixor, ↓e_ishl, ↓e_ishr, ↓e_iushr, ↓e_ladd, ↓e_lsub, ↓e_lmul, ↓e_land, ↓e_lor, ↓e_idiv, ↓e_irem, ↓e_ldiv, ↓e_lrem, ↓e_lshl, ↓e_lcmp, ↓e_i2l, ↓e_l2i, ↓e_i2b, ↓e_i2s, ↓e_dup_int, ↓e_pop_int, ↓e_dup_ref, ↓e_pop_ref, ↓e_dup2, ↓e_goto, ↓e_nop, ↓e_ifCond_eq, ↓e_if_icmp_eq, ↓e_ifCond_ne, ↓e_if_icmp_ne, ↓e_ifCond_lt, ↓e_if_icmp_lt, ↓e_ifCond_ge, ↓e_if_icmp_ge, ↓e_ifCond_gt, ↓e_if_icmp_gt, ↓e_ifCond_le, ↓e_if_icmp_le, ↓e_tab, ↓e_look, ↓e_get0, ↓e_get1, ↓e_get2, ↓e_get3, ↓e_put0, ↓e_put1, ↓e_put2, ↓e_put3, ↓e_iaload, ↓e_laload, ↓e_baload, ↓e_aaload, ↓e_iastore, ↓e_lastore, ↓e_bastore, ↓e_aastore, ↓e_alen, ↓e_new, ↓e_newarray, ↓e_anewarray, ↓e_objinit, ↓e_virt1, ↓e_virt2, ↓e_virt3, ↓e_virt4, ↓e_virt5, ↓e_virt6, ↓e_virt7, ↓e_stat0, ↓e_stat1, ↓e_stat2, ↓e_stat3, ↓e_stat4, ↓e_stat5, ↓e_stat6, ↓e_stat7, ↓e_spec1, ↓e_spec2, ↓e_spec3, ↓e_spec4, ↓e_spec5, ↓e_strlen, ↓e_charAt, ↓e_copy, ↓e_iret0, ↓e_iret1, ↓e_lret, ↓e_aret, ↓e_vret, zIsI_int, zIsL_long, zIsA_ref, zInt_int, true_and, and_true, ↓reduceIte, zGet, zSet, zSet2, zEnt, zWid, Value.category, List.map_cons, List.map_nil, List.sum_cons, List.sum_nil, List.replicate, Option.toList, Nat.reduceAdd, Nat.reduceSub, Nat.reduceMul, Nat.reduceLeDiff, Nat.reduceEqDiff, Nat.reduceLT, List.cons_append, List.nil_append, true_or, or_true, or_false, false_or, nI_ltI, nI_leI, nI_eq, nI_clamp, zIn_nI, bI_0, nI_add, nI_mul, nI_or, nI_and, nI_shl1, nI_bit, ↓pk_rem, pk_div, Nat.lt_irrefl, Nat.not_lt_zero, reduceCtorEq, Xk.k, b10, hρ, X1.x.k, X1.x.r0, X1.x.k99, a10, n11, hn', s9, hx, ↓c_isLetter b, hl', ↓c_isDigit b, hd', Ya.k, c5, ↓c_isSign b, hg, sK_setI, c10, show bI true = nI 1 from rfl, show bI false = nI 0 from rfl]
          | false => simp (disch := omega) only [L_111_66, zt_111_66, L_111_88, zt_111_88, L_111_110, zt_111_110, L_111_138, zt_111_138, L_111_139, zt_111_139, L_111_152, zt_111_152, ↓e_iconst0, ↓e_iconst1, ↓e_bipush0, ↓e_bipush1, ↓e_sipush0, ↓e_sipush1, ↓e_ldc0, ↓e_ldc1, ↓e_ldc_w0, ↓e_ldc_w1, ↓e_ldc2, ↓e_lconst0, ↓e_lconst1, ↓e_ldc2_w0, ↓e_ldc2_w1, ↓e_iload, ↓e_iload_n, ↓e_istore, ↓e_istore_n, ↓e_lload, ↓e_lload_n, ↓e_lstore, ↓e_lstore_n, ↓e_aload, ↓e_aload_n, ↓e_astore, ↓e_astore_n, ↓e_iinc0, ↓e_iinc1, ↓e_iadd, ↓e_isub, ↓e_imul, ↓e_iand, ↓e_ior, ↓e_ixor, ↓e_ishl, ↓e_ishr, ↓e_iushr, ↓e_ladd, ↓e_lsub, ↓e_lmul, ↓e_land, ↓e_lor, ↓e_idiv, ↓e_irem, ↓e_ldiv, ↓e_lrem, ↓e_lshl, ↓e_lcmp, ↓e_i2l, ↓e_l2i, ↓e_i2b, ↓e_i2s, ↓e_dup_int, ↓e_pop_int, ↓e_dup_ref, ↓e_pop_ref, ↓e_dup2, ↓e_goto, ↓e_nop, ↓e_ifCond_eq, ↓e_if_icmp_eq, ↓e_ifCond_ne, ↓e_if_icmp_ne, ↓e_ifCond_lt, ↓e_if_icmp_lt, ↓e_ifCond_ge, ↓e_if_icmp_ge, ↓e_ifCond_gt, ↓e_if_icmp_gt, ↓e_ifCond_le, ↓e_if_icmp_le, ↓e_tab, ↓e_look, ↓e_get0, ↓e_get1, ↓e_get2, ↓e_get3, ↓e_put0, ↓e_put1, ↓e_put2, ↓e_put3, ↓e_iaload, ↓e_laload, ↓e_baload, ↓e_aaload, ↓e_iastore, ↓e_lastore, ↓e_bastore, ↓e_aastore, ↓e_alen, ↓e_new, ↓e_newarray, ↓e_anewarray, ↓e_objinit, ↓e_virt1, ↓e_virt2, ↓e_virt3, ↓e_virt4, ↓e_virt5, ↓e_virt6, ↓e_virt7, ↓e_stat0, ↓e_stat1, ↓e_stat2, ↓e_stat3, ↓e_stat4, ↓e_stat5, ↓e_stat6, ↓e_stat7, ↓e_spec1, ↓e_spec2, ↓e_spec3, ↓e_spec4, ↓e_spec5, ↓e_strlen, ↓e_charAt, ↓e_copy, ↓e_iret0, ↓e_iret1, ↓e_lret, ↓e_aret, ↓e_vret, zIsI_int, zIsL_long, zIsA_ref, zInt_int, true_and, and_true, ↓reduceIte, zGet, zSet, zSet2, zEnt, zWid, Value.category, List.map_cons, List.map_nil, List.sum_cons, List.sum_nil, List.replicate, Option.toList, Nat.reduceAdd, Nat.reduceSub, Nat.reduceMul, Nat.reduceLeDiff, Nat.reduceEqDiff, Nat.reduceLT, List.cons_append, List.nil_append, true_or, or_true, or_false, false_or, nI_ltI, nI_leI, nI_eq, nI_clamp, zIn_nI, bI_0, nI_add, nI_mul, nI_or, nI_and, nI_shl1, nI_bit, ↓pk_rem, pk_div, Nat.lt_irrefl, Nat.not_lt_zero, reduceCtorEq, Xk.k, b10, hρ, X1.x.k, X1.x.r0, X1.x.k99, a10, n11, hn', s9, hx, ↓c_isLetter b, hl', ↓c_isDigit b, hd', Ya.k, c5, ↓c_isSign b, hg, sK_setI, c10, show bI true = nI 1 from rfl, show bI false = nI 0 from rfl, Bool.false_eq_true]
end ADV
