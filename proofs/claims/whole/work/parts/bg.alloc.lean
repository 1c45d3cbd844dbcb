/-! OBJECTS MADE: an object and its rows -/
def lkF (fs : List (Nat × Nat × Nat)) (f : Nat) : Nat × Option Nat := fs.foldl (fun x p => (x.1 + 1, if p.1 = f then some x.1 else x.2)) (0, none)
def alO (σ : MS) (c : Nat) (fs : List (Nat × Nat × Nat)) : MS :=
  (σ.1 ++ (0, c) :: fs.map (fun p => p.2), fun b j => if σ.1.length ≤ b ∧ b ≤ σ.1.length + fs.length then 0 else σ.2.1 b j, fun b j => if σ.1.length ≤ b ∧ b ≤ σ.1.length + fs.length then 0 else σ.2.2.1 b j, fun b j => if b = σ.1.length then (match (lkF fs j).2 with | none => zNul | some i => σ.1.length + 1 + i) else if σ.1.length < b ∧ b ≤ σ.1.length + fs.length then zNul else σ.2.2.2 b j)
section ALC
variable {d n : Nat} {σ τ : MS} {K : Option Value → MS → Prop}
theorem lkF_len (fs : List (Nat × Nat × Nat)) (f : Nat) : ∀ x : Nat × Option Nat, (fs.foldl (fun x p => (x.1 + 1, if p.1 = f then some x.1 else x.2)) x).1 = x.1 + fs.length := by
  induction fs with
  | nil => intro x; rfl
  | cons p fs ih =>
    intro x
    rw [List.foldl_cons, ih, List.length_cons]
    show x.1 + 1 + fs.length = _
    omega
theorem lkF_s (fs : List (Nat × Nat × Nat)) (p : Nat × Nat × Nat) (f : Nat) : (lkF (fs ++ [p]) f).2 = if p.1 = f then some fs.length else (lkF fs f).2 := by
  unfold lkF
  rw [List.foldl_append, List.foldl_cons, List.foldl_nil, lkF_len, Nat.zero_add]
theorem al_len (c : Nat) (fs : List (Nat × Nat × Nat)) : (alO σ c fs).1.length = σ.1.length + (fs.length + 1) := by
  show (σ.1 ++ (0, c) :: fs.map (fun p => p.2)).length = _
  rw [List.length_append, List.length_cons, List.length_map]
theorem al_0 (c : Nat) : zNew σ (0, c) = alO σ c [] := by
  unfold zNew alO
  refine Prod.ext rfl (Prod.ext ?_ (Prod.ext ?_ ?_))
  · funext b j
    dsimp only
    by_cases h : b = σ.1.length
    · rw [if_pos h, if_pos (by rw [h]; exact ⟨Nat.le_refl _, Nat.le_refl _⟩)]
    · rw [if_neg h, if_neg (fun x => h (Nat.le_antisymm x.2 x.1))]
  · funext b j
    dsimp only
    by_cases h : b = σ.1.length
    · rw [if_pos h, if_pos (by rw [h]; exact ⟨Nat.le_refl _, Nat.le_refl _⟩)]
    · rw [if_neg h, if_neg (fun x => h (Nat.le_antisymm x.2 x.1))]
  · funext b j
    dsimp only
    by_cases h : b = σ.1.length
    · rw [if_pos h, if_pos h]; rfl
    · rw [if_neg h, if_neg h, if_neg (fun x => Nat.lt_irrefl _ (Nat.lt_of_lt_of_le x.1 x.2))]
theorem al_s (hn : σ.1.length = n) (c : Nat) (fs : List (Nat × Nat × Nat)) (f : Nat) (k : Nat × Nat) : setR (zNew (alO σ c fs) k) n f (alO σ c fs).1.length = alO σ c (fs ++ [(f, k)]) := by
  have hl := al_len (σ := σ) c fs
  have ll : (fs ++ [(f, k)]).length = fs.length + 1 := by rw [List.length_append]; rfl
  subst hn
  refine Prod.ext ?_ (Prod.ext ?_ (Prod.ext ?_ ?_))
  · show (σ.1 ++ (0, c) :: fs.map (fun p => p.2)) ++ [k] = σ.1 ++ (0, c) :: (fs ++ [(f, k)]).map (fun p => p.2)
    rw [List.map_append, List.append_assoc]
    rfl
  · funext b j
    show (if b = (alO σ c fs).1.length then 0 else if σ.1.length ≤ b ∧ b ≤ σ.1.length + fs.length then 0 else σ.2.1 b j) = if σ.1.length ≤ b ∧ b ≤ σ.1.length + (fs ++ [(f, k)]).length then 0 else σ.2.1 b j
    rw [hl, ll]
    by_cases h : b = σ.1.length + (fs.length + 1)
    · rw [if_pos h, if_pos (by omega)]
    · rw [if_neg h]
      by_cases h2 : σ.1.length ≤ b ∧ b ≤ σ.1.length + fs.length
      · rw [if_pos h2, if_pos (by omega)]
      · rw [if_neg h2, if_neg (by omega)]
  · funext b j
    show (if b = (alO σ c fs).1.length then 0 else if σ.1.length ≤ b ∧ b ≤ σ.1.length + fs.length then 0 else σ.2.2.1 b j) = if σ.1.length ≤ b ∧ b ≤ σ.1.length + (fs ++ [(f, k)]).length then 0 else σ.2.2.1 b j
    rw [hl, ll]
    by_cases h : b = σ.1.length + (fs.length + 1)
    · rw [if_pos h, if_pos (by omega)]
    · rw [if_neg h]
      by_cases h2 : σ.1.length ≤ b ∧ b ≤ σ.1.length + fs.length
      · rw [if_pos h2, if_pos (by omega)]
      · rw [if_neg h2, if_neg (by omega)]
  · funext b j
    show (if b = σ.1.length ∧ j = f then (alO σ c fs).1.length else if b = (alO σ c fs).1.length then zNul else if b = σ.1.length then (match (lkF fs j).2 with | none => zNul | some i => σ.1.length + 1 + i) else if σ.1.length < b ∧ b ≤ σ.1.length + fs.length then zNul else σ.2.2.2 b j) = if b = σ.1.length then (match (lkF (fs ++ [(f, k)]) j).2 with | none => zNul | some i => σ.1.length + 1 + i) else if σ.1.length < b ∧ b ≤ σ.1.length + (fs ++ [(f, k)]).length then zNul else σ.2.2.2 b j
    rw [hl, ll, lkF_s]
    by_cases h : b = σ.1.length
    · by_cases h2 : j = f
      · rw [if_pos ⟨h, h2⟩, if_pos h, if_pos h2.symm]
        show σ.1.length + (fs.length + 1) = σ.1.length + 1 + fs.length
        omega
      · rw [if_neg (fun x => h2 x.2), if_neg (by omega), if_pos h, if_pos h, if_neg (fun x => h2 x.symm)]
    · rw [if_neg (fun x => h x.1), if_neg h]
      by_cases h3 : b = σ.1.length + (fs.length + 1)
      · rw [if_pos h3, if_neg h, if_pos (by omega)]
      · rw [if_neg h3, if_neg h]
        by_cases h4 : σ.1.length < b ∧ b ≤ σ.1.length + fs.length
        · rw [if_pos h4, if_pos (by omega)]
        · rw [if_neg h4, if_neg (by omega)]
theorem al_K (hn : σ.1.length = n) (c : Nat) (fs : List (Nat × Nat × Nat)) : sK (alO σ c fs) n = (0, c) := by
  show (σ.1 ++ (0, c) :: fs.map (fun p => p.2)).getD n (99, 0) = (0, c)
  rw [List.getD_eq_getElem?_getD, List.getElem?_append_right (by omega), hn, Nat.sub_self]
  rfl
theorem al_Ki (hn : σ.1.length = n) (c : Nat) (fs : List (Nat × Nat × Nat)) (i : Nat) : sK (alO σ c fs) (n + (i + 1)) = (fs.map (fun p => p.2)).getD i (99, 0) := by
  show (σ.1 ++ (0, c) :: fs.map (fun p => p.2)).getD (n + (i + 1)) (99, 0) = _
  rw [List.getD_eq_getElem?_getD, List.getElem?_append_right (by omega), hn, Nat.add_sub_cancel_left, List.getElem?_cons_succ, ← List.getD_eq_getElem?_getD]
theorem al_K0 (hn : σ.1.length = n) (c : Nat) (fs : List (Nat × Nat × Nat)) (k : Nat × Nat) : sK (zNew (alO σ c fs) k) n = (0, c) := (sK_zNew (by rw [al_len]; omega)).trans (al_K hn c fs)
theorem al_R (hn : σ.1.length = n) (c : Nat) (fs : List (Nat × Nat × Nat)) {f i : Nat} (h : (lkF fs f).2 = some i) : sR (alO σ c fs) n f = n + (i + 1) := by
  show (if n = σ.1.length then (match (lkF fs f).2 with | none => zNul | some i => σ.1.length + 1 + i) else _) = _
  rw [if_pos hn.symm, h, hn]
  show n + 1 + i = _
  omega
theorem al_I (hn : σ.1.length = n) (c : Nat) (fs : List (Nat × Nat × Nat)) {b j : Nat} (h1 : n ≤ b) (h2 : b ≤ n + fs.length) : sI (alO σ c fs) b j = nI 0 := by
  show (if σ.1.length ≤ b ∧ b ≤ σ.1.length + fs.length then 0 else σ.2.1 b j) = _
  rw [if_pos (by omega)]
  rfl
/-- what stood before stands (but for the cell 1, an object in the making) -/
def Up (n : Nat) (σ τ : MS) : Prop := n ≤ τ.1.length ∧ ∀ c, c < n → c ≠ 1 → sK τ c = sK σ c ∧ (∀ j, sI τ c j = sI σ c j) ∧ (∀ j, sL τ c j = sL σ c j) ∧ (∀ j, sR τ c j = sR σ c j)
theorem Up.tr {ρ : MS} {m : Nat} (h1 : Up n σ τ) (h2 : Up m τ ρ) (h : n ≤ m) : Up n σ ρ := ⟨Nat.le_trans h h2.1, fun c hc h1c => by
  obtain ⟨a1, a2, a3, a4⟩ := h1.2 c hc h1c
  obtain ⟨b1, b2, b3, b4⟩ := h2.2 c (by omega) h1c
  exact ⟨b1.trans a1, fun j => (b2 j).trans (a2 j), fun j => (b3 j).trans (a3 j), fun j => (b4 j).trans (a4 j)⟩⟩
theorem al_up (hn : σ.1.length = n) (c : Nat) (fs : List (Nat × Nat × Nat)) : Up n σ (alO σ c fs) := by
  refine ⟨by rw [al_len]; omega, fun b hb _ => ⟨?_, fun j => ?_, fun j => ?_, fun j => ?_⟩⟩
  · show (σ.1 ++ (0, c) :: fs.map (fun p => p.2)).getD b (99, 0) = σ.1.getD b (99, 0)
    rw [List.getD_eq_getElem?_getD, List.getElem?_append_left (by omega), ← List.getD_eq_getElem?_getD]
  · show (if σ.1.length ≤ b ∧ b ≤ σ.1.length + fs.length then 0 else σ.2.1 b j) = _
    rw [if_neg (by omega)]
    rfl
  · show (if σ.1.length ≤ b ∧ b ≤ σ.1.length + fs.length then 0 else σ.2.2.1 b j) = _
    rw [if_neg (by omega)]
    rfl
  · show (if b = σ.1.length then _ else if σ.1.length < b ∧ b ≤ σ.1.length + fs.length then zNul else σ.2.2.2 b j) = _
    rw [if_neg (by omega), if_neg (by omega)]
    rfl
theorem nIlt0 (n : Nat) (h : n < 2 ^ 31) : (nI n < 0) = False := eq_false (nI_pos h)
theorem setR_1 (a b v : Nat) : (setR σ a b v).1 = σ.1 := rfl
theorem setI_1 (a b : Nat) (v : Int32) : (setI σ a b v).1 = σ.1 := rfl
theorem setL_1 (a b : Nat) (v : Int64) : (setL σ a b v).1 = σ.1 := rfl
theorem c_newDays (hn : σ.1.length = n) (h : n < 1000) : zC (d + 1) 9 [.ref n] (zNew σ (0, 1)) K = K none (alO σ 1 [(2, 1, 30), (3, 1, 30), (4, 1, 30), (5, 1, 30)]) := by
  have hz : n < zNul := by show n < 1000000; omega
  rw [al_0, E_9]
  simp (disch := omega) only [L_9_0, zt_9_0, ↓e_iconst0, ↓e_iconst1, ↓e_bipush0, ↓e_bipush1, ↓e_sipush0, ↓e_sipush1, ↓e_ldc0, ↓e_ldc1, ↓e_ldc_w0, ↓e_ldc_w1, ↓e_ldc2, ↓e_lconst0, ↓e_lconst1, ↓e_ldc2_w0, ↓e_ldc2_w1, ↓e_iload, ↓e_iload_n, ↓e_istore, ↓e_istore_n, ↓e_lload, ↓e_lload_n, ↓e_lstore, ↓e_lstore_n, ↓e_aload, ↓e_aload_n, ↓e_astore, ↓e_astore_n, ↓e_iinc0, ↓e_iinc1, ↓e_iadd, ↓e_isub, ↓e_imul, ↓e_iand, ↓e_ior, ↓e_ixor, ↓e_ishl, ↓e_ishr, ↓e_iushr, ↓e_ladd, ↓e_lsub, ↓e_lmul, ↓e_land, ↓e_lor, ↓e_idiv, ↓e_irem, ↓e_ldiv, ↓e_lrem, ↓e_lshl, ↓e_lcmp, ↓e_i2l, ↓e_l2i, ↓e_i2b, ↓e_i2s, ↓e_dup_int, ↓e_pop_int, ↓e_dup_ref, ↓e_pop_ref, ↓e_dup2, ↓e_goto, ↓e_nop, ↓e_ifCond_eq, ↓e_if_icmp_eq, ↓e_ifCond_ne, ↓e_if_icmp_ne, ↓e_ifCond_lt, ↓e_if_icmp_lt, ↓e_ifCond_ge, ↓e_if_icmp_ge, ↓e_ifCond_gt, ↓e_if_icmp_gt, ↓e_ifCond_le, ↓e_if_icmp_le, ↓e_tab, ↓e_look, ↓e_get0, ↓e_get1, ↓e_get2, ↓e_get3, ↓e_put0, ↓e_put1, ↓e_put2, ↓e_put3, ↓e_iaload, ↓e_laload, ↓e_baload, ↓e_aaload, ↓e_iastore, ↓e_lastore, ↓e_bastore, ↓e_aastore, ↓e_alen, ↓e_new, ↓e_newarray, ↓e_anewarray, ↓e_objinit, ↓e_virt1, ↓e_virt2, ↓e_virt3, ↓e_virt4, ↓e_virt5, ↓e_virt6, ↓e_virt7, ↓e_stat0, ↓e_stat1, ↓e_stat2, ↓e_stat3, ↓e_stat4, ↓e_stat5, ↓e_stat6, ↓e_stat7, ↓e_spec1, ↓e_spec2, ↓e_spec3, ↓e_spec4, ↓e_spec5, ↓e_strlen, ↓e_charAt, ↓e_copy, ↓e_iret0, ↓e_iret1, ↓e_lret, ↓e_aret, ↓e_vret, zIsI_int, zIsL_long, zIsA_ref, zInt_int, true_and, and_true, ↓reduceIte, zGet, zSet, zSet2, zEnt, zWid, Value.category, List.map_cons, List.map_nil, List.sum_cons, List.sum_nil, List.replicate, Option.toList, Nat.reduceAdd, Nat.reduceSub, Nat.reduceMul, Nat.reduceLeDiff, Nat.reduceEqDiff, Nat.reduceLT, List.cons_append, List.nil_append, true_or, or_true, or_false, false_or, hz, al_K0 hn, al_s hn, nIlt0, nI_clamp, Nat.reduceLeDiff, not_false_eq_true, List.nil_append, List.cons_append]
theorem c_newTray (hn : σ.1.length = n) (h : n < 1000) : zC (d + 1) 127 [.ref n] (zNew σ (0, 8)) K = K none (alO σ 8 [(3, 2, 60)]) := by
  have hz : n < zNul := by show n < 1000000; omega
  rw [al_0, E_127]
  simp (disch := omega) only [L_127_0, zt_127_0, ↓e_iconst0, ↓e_iconst1, ↓e_bipush0, ↓e_bipush1, ↓e_sipush0, ↓e_sipush1, ↓e_ldc0, ↓e_ldc1, ↓e_ldc_w0, ↓e_ldc_w1, ↓e_ldc2, ↓e_lconst0, ↓e_lconst1, ↓e_ldc2_w0, ↓e_ldc2_w1, ↓e_iload, ↓e_iload_n, ↓e_istore, ↓e_istore_n, ↓e_lload, ↓e_lload_n, ↓e_lstore, ↓e_lstore_n, ↓e_aload, ↓e_aload_n, ↓e_astore, ↓e_astore_n, ↓e_iinc0, ↓e_iinc1, ↓e_iadd, ↓e_isub, ↓e_imul, ↓e_iand, ↓e_ior, ↓e_ixor, ↓e_ishl, ↓e_ishr, ↓e_iushr, ↓e_ladd, ↓e_lsub, ↓e_lmul, ↓e_land, ↓e_lor, ↓e_idiv, ↓e_irem, ↓e_ldiv, ↓e_lrem, ↓e_lshl, ↓e_lcmp, ↓e_i2l, ↓e_l2i, ↓e_i2b, ↓e_i2s, ↓e_dup_int, ↓e_pop_int, ↓e_dup_ref, ↓e_pop_ref, ↓e_dup2, ↓e_goto, ↓e_nop, ↓e_ifCond_eq, ↓e_if_icmp_eq, ↓e_ifCond_ne, ↓e_if_icmp_ne, ↓e_ifCond_lt, ↓e_if_icmp_lt, ↓e_ifCond_ge, ↓e_if_icmp_ge, ↓e_ifCond_gt, ↓e_if_icmp_gt, ↓e_ifCond_le, ↓e_if_icmp_le, ↓e_tab, ↓e_look, ↓e_get0, ↓e_get1, ↓e_get2, ↓e_get3, ↓e_put0, ↓e_put1, ↓e_put2, ↓e_put3, ↓e_iaload, ↓e_laload, ↓e_baload, ↓e_aaload, ↓e_iastore, ↓e_lastore, ↓e_bastore, ↓e_aastore, ↓e_alen, ↓e_new, ↓e_newarray, ↓e_anewarray, ↓e_objinit, ↓e_virt1, ↓e_virt2, ↓e_virt3, ↓e_virt4, ↓e_virt5, ↓e_virt6, ↓e_virt7, ↓e_stat0, ↓e_stat1, ↓e_stat2, ↓e_stat3, ↓e_stat4, ↓e_stat5, ↓e_stat6, ↓e_stat7, ↓e_spec1, ↓e_spec2, ↓e_spec3, ↓e_spec4, ↓e_spec5, ↓e_strlen, ↓e_charAt, ↓e_copy, ↓e_iret0, ↓e_iret1, ↓e_lret, ↓e_aret, ↓e_vret, zIsI_int, zIsL_long, zIsA_ref, zInt_int, true_and, and_true, ↓reduceIte, zGet, zSet, zSet2, zEnt, zWid, Value.category, List.map_cons, List.map_nil, List.sum_cons, List.sum_nil, List.replicate, Option.toList, Nat.reduceAdd, Nat.reduceSub, Nat.reduceMul, Nat.reduceLeDiff, Nat.reduceEqDiff, Nat.reduceLT, List.cons_append, List.nil_append, true_or, or_true, or_false, false_or, hz, al_K0 hn, al_s hn, nIlt0, nI_clamp, Nat.reduceLeDiff, not_false_eq_true, List.nil_append, List.cons_append]
theorem c_newLife (hn : σ.1.length = n) (h : n < 1000) : zC (d + 1) 30 [.ref n] (zNew σ (0, 4)) K = K none (alO σ 4 []) := by
  have hz : n < zNul := by show n < 1000000; omega
  rw [al_0, E_30]
  simp (disch := omega) only [L_30_0, zt_30_0, ↓e_iconst0, ↓e_iconst1, ↓e_bipush0, ↓e_bipush1, ↓e_sipush0, ↓e_sipush1, ↓e_ldc0, ↓e_ldc1, ↓e_ldc_w0, ↓e_ldc_w1, ↓e_ldc2, ↓e_lconst0, ↓e_lconst1, ↓e_ldc2_w0, ↓e_ldc2_w1, ↓e_iload, ↓e_iload_n, ↓e_istore, ↓e_istore_n, ↓e_lload, ↓e_lload_n, ↓e_lstore, ↓e_lstore_n, ↓e_aload, ↓e_aload_n, ↓e_astore, ↓e_astore_n, ↓e_iinc0, ↓e_iinc1, ↓e_iadd, ↓e_isub, ↓e_imul, ↓e_iand, ↓e_ior, ↓e_ixor, ↓e_ishl, ↓e_ishr, ↓e_iushr, ↓e_ladd, ↓e_lsub, ↓e_lmul, ↓e_land, ↓e_lor, ↓e_idiv, ↓e_irem, ↓e_ldiv, ↓e_lrem, ↓e_lshl, ↓e_lcmp, ↓e_i2l, ↓e_l2i, ↓e_i2b, ↓e_i2s, ↓e_dup_int, ↓e_pop_int, ↓e_dup_ref, ↓e_pop_ref, ↓e_dup2, ↓e_goto, ↓e_nop, ↓e_ifCond_eq, ↓e_if_icmp_eq, ↓e_ifCond_ne, ↓e_if_icmp_ne, ↓e_ifCond_lt, ↓e_if_icmp_lt, ↓e_ifCond_ge, ↓e_if_icmp_ge, ↓e_ifCond_gt, ↓e_if_icmp_gt, ↓e_ifCond_le, ↓e_if_icmp_le, ↓e_tab, ↓e_look, ↓e_get0, ↓e_get1, ↓e_get2, ↓e_get3, ↓e_put0, ↓e_put1, ↓e_put2, ↓e_put3, ↓e_iaload, ↓e_laload, ↓e_baload, ↓e_aaload, ↓e_iastore, ↓e_lastore, ↓e_bastore, ↓e_aastore, ↓e_alen, ↓e_new, ↓e_newarray, ↓e_anewarray, ↓e_objinit, ↓e_virt1, ↓e_virt2, ↓e_virt3, ↓e_virt4, ↓e_virt5, ↓e_virt6, ↓e_virt7, ↓e_stat0, ↓e_stat1, ↓e_stat2, ↓e_stat3, ↓e_stat4, ↓e_stat5, ↓e_stat6, ↓e_stat7, ↓e_spec1, ↓e_spec2, ↓e_spec3, ↓e_spec4, ↓e_spec5, ↓e_strlen, ↓e_charAt, ↓e_copy, ↓e_iret0, ↓e_iret1, ↓e_lret, ↓e_aret, ↓e_vret, zIsI_int, zIsL_long, zIsA_ref, zInt_int, true_and, and_true, ↓reduceIte, zGet, zSet, zSet2, zEnt, zWid, Value.category, List.map_cons, List.map_nil, List.sum_cons, List.sum_nil, List.replicate, Option.toList, Nat.reduceAdd, Nat.reduceSub, Nat.reduceMul, Nat.reduceLeDiff, Nat.reduceEqDiff, Nat.reduceLT, List.cons_append, List.nil_append, true_or, or_true, or_false, false_or, hz]
theorem c_newBest (hn : σ.1.length = n) (h : n < 1000) : zC (d + 1) 0 [.ref n] (zNew σ (0, 0)) K = K none (alO σ 0 [(4, 1, 8), (5, 1, 8), (6, 1, 8), (7, 1, 9), (8, 1, 29), (9, 1, 8), (10, 1, 8), (12, 1, 20), (13, 1, 64)]) := by
  have hz : n < zNul := by show n < 1000000; omega
  rw [al_0, E_0]
  simp (disch := omega) only [L_0_0, zt_0_0, ↓e_iconst0, ↓e_iconst1, ↓e_bipush0, ↓e_bipush1, ↓e_sipush0, ↓e_sipush1, ↓e_ldc0, ↓e_ldc1, ↓e_ldc_w0, ↓e_ldc_w1, ↓e_ldc2, ↓e_lconst0, ↓e_lconst1, ↓e_ldc2_w0, ↓e_ldc2_w1, ↓e_iload, ↓e_iload_n, ↓e_istore, ↓e_istore_n, ↓e_lload, ↓e_lload_n, ↓e_lstore, ↓e_lstore_n, ↓e_aload, ↓e_aload_n, ↓e_astore, ↓e_astore_n, ↓e_iinc0, ↓e_iinc1, ↓e_iadd, ↓e_isub, ↓e_imul, ↓e_iand, ↓e_ior, ↓e_ixor, ↓e_ishl, ↓e_ishr, ↓e_iushr, ↓e_ladd, ↓e_lsub, ↓e_lmul, ↓e_land, ↓e_lor, ↓e_idiv, ↓e_irem, ↓e_ldiv, ↓e_lrem, ↓e_lshl, ↓e_lcmp, ↓e_i2l, ↓e_l2i, ↓e_i2b, ↓e_i2s, ↓e_dup_int, ↓e_pop_int, ↓e_dup_ref, ↓e_pop_ref, ↓e_dup2, ↓e_goto, ↓e_nop, ↓e_ifCond_eq, ↓e_if_icmp_eq, ↓e_ifCond_ne, ↓e_if_icmp_ne, ↓e_ifCond_lt, ↓e_if_icmp_lt, ↓e_ifCond_ge, ↓e_if_icmp_ge, ↓e_ifCond_gt, ↓e_if_icmp_gt, ↓e_ifCond_le, ↓e_if_icmp_le, ↓e_tab, ↓e_look, ↓e_get0, ↓e_get1, ↓e_get2, ↓e_get3, ↓e_put0, ↓e_put1, ↓e_put2, ↓e_put3, ↓e_iaload, ↓e_laload, ↓e_baload, ↓e_aaload, ↓e_iastore, ↓e_lastore, ↓e_bastore, ↓e_aastore, ↓e_alen, ↓e_new, ↓e_newarray, ↓e_anewarray, ↓e_objinit, ↓e_virt1, ↓e_virt2, ↓e_virt3, ↓e_virt4, ↓e_virt5, ↓e_virt6, ↓e_virt7, ↓e_stat0, ↓e_stat1, ↓e_stat2, ↓e_stat3, ↓e_stat4, ↓e_stat5, ↓e_stat6, ↓e_stat7, ↓e_spec1, ↓e_spec2, ↓e_spec3, ↓e_spec4, ↓e_spec5, ↓e_strlen, ↓e_charAt, ↓e_copy, ↓e_iret0, ↓e_iret1, ↓e_lret, ↓e_aret, ↓e_vret, zIsI_int, zIsL_long, zIsA_ref, zInt_int, true_and, and_true, ↓reduceIte, zGet, zSet, zSet2, zEnt, zWid, Value.category, List.map_cons, List.map_nil, List.sum_cons, List.sum_nil, List.replicate, Option.toList, Nat.reduceAdd, Nat.reduceSub, Nat.reduceMul, Nat.reduceLeDiff, Nat.reduceEqDiff, Nat.reduceLT, List.cons_append, List.nil_append, true_or, or_true, or_false, false_or, hz, al_K0 hn, al_s hn, nIlt0, nI_clamp, Nat.reduceLeDiff, not_false_eq_true, List.nil_append, List.cons_append]
theorem c_newGame (hn : σ.1.length = n) (h : n < 1000) : zC (d + 1) 24 [.ref n] (zNew σ (0, 3)) K = K none (alO σ 3 [(4, 1, 20)]) := by
  have hz : n < zNul := by show n < 1000000; omega
  rw [al_0, E_24]
  simp (disch := omega) only [L_24_0, zt_24_0, ↓e_iconst0, ↓e_iconst1, ↓e_bipush0, ↓e_bipush1, ↓e_sipush0, ↓e_sipush1, ↓e_ldc0, ↓e_ldc1, ↓e_ldc_w0, ↓e_ldc_w1, ↓e_ldc2, ↓e_lconst0, ↓e_lconst1, ↓e_ldc2_w0, ↓e_ldc2_w1, ↓e_iload, ↓e_iload_n, ↓e_istore, ↓e_istore_n, ↓e_lload, ↓e_lload_n, ↓e_lstore, ↓e_lstore_n, ↓e_aload, ↓e_aload_n, ↓e_astore, ↓e_astore_n, ↓e_iinc0, ↓e_iinc1, ↓e_iadd, ↓e_isub, ↓e_imul, ↓e_iand, ↓e_ior, ↓e_ixor, ↓e_ishl, ↓e_ishr, ↓e_iushr, ↓e_ladd, ↓e_lsub, ↓e_lmul, ↓e_land, ↓e_lor, ↓e_idiv, ↓e_irem, ↓e_ldiv, ↓e_lrem, ↓e_lshl, ↓e_lcmp, ↓e_i2l, ↓e_l2i, ↓e_i2b, ↓e_i2s, ↓e_dup_int, ↓e_pop_int, ↓e_dup_ref, ↓e_pop_ref, ↓e_dup2, ↓e_goto, ↓e_nop, ↓e_ifCond_eq, ↓e_if_icmp_eq, ↓e_ifCond_ne, ↓e_if_icmp_ne, ↓e_ifCond_lt, ↓e_if_icmp_lt, ↓e_ifCond_ge, ↓e_if_icmp_ge, ↓e_ifCond_gt, ↓e_if_icmp_gt, ↓e_ifCond_le, ↓e_if_icmp_le, ↓e_tab, ↓e_look, ↓e_get0, ↓e_get1, ↓e_get2, ↓e_get3, ↓e_put0, ↓e_put1, ↓e_put2, ↓e_put3, ↓e_iaload, ↓e_laload, ↓e_baload, ↓e_aaload, ↓e_iastore, ↓e_lastore, ↓e_bastore, ↓e_aastore, ↓e_alen, ↓e_new, ↓e_newarray, ↓e_anewarray, ↓e_objinit, ↓e_virt1, ↓e_virt2, ↓e_virt3, ↓e_virt4, ↓e_virt5, ↓e_virt6, ↓e_virt7, ↓e_stat0, ↓e_stat1, ↓e_stat2, ↓e_stat3, ↓e_stat4, ↓e_stat5, ↓e_stat6, ↓e_stat7, ↓e_spec1, ↓e_spec2, ↓e_spec3, ↓e_spec4, ↓e_spec5, ↓e_strlen, ↓e_charAt, ↓e_copy, ↓e_iret0, ↓e_iret1, ↓e_lret, ↓e_aret, ↓e_vret, zIsI_int, zIsL_long, zIsA_ref, zInt_int, true_and, and_true, ↓reduceIte, zGet, zSet, zSet2, zEnt, zWid, Value.category, List.map_cons, List.map_nil, List.sum_cons, List.sum_nil, List.replicate, Option.toList, Nat.reduceAdd, Nat.reduceSub, Nat.reduceMul, Nat.reduceLeDiff, Nat.reduceEqDiff, Nat.reduceLT, List.cons_append, List.nil_append, true_or, or_true, or_false, false_or, hz, al_K0 hn, al_s hn, nIlt0, nI_clamp, Nat.reduceLeDiff, not_false_eq_true, List.nil_append, List.cons_append]
theorem c_newWeigh (hn : σ.1.length = n) (h : n < 1000) : zC (d + 1) 133 [.ref n] (zNew σ (0, 9)) K = K none (alO σ 9 [(3, 1, 8), (4, 1, 8), (5, 1, 20), (6, 1, 160)]) := by
  have hz : n < zNul := by show n < 1000000; omega
  rw [al_0, E_133]
  simp (disch := omega) only [L_133_0, zt_133_0, ↓e_iconst0, ↓e_iconst1, ↓e_bipush0, ↓e_bipush1, ↓e_sipush0, ↓e_sipush1, ↓e_ldc0, ↓e_ldc1, ↓e_ldc_w0, ↓e_ldc_w1, ↓e_ldc2, ↓e_lconst0, ↓e_lconst1, ↓e_ldc2_w0, ↓e_ldc2_w1, ↓e_iload, ↓e_iload_n, ↓e_istore, ↓e_istore_n, ↓e_lload, ↓e_lload_n, ↓e_lstore, ↓e_lstore_n, ↓e_aload, ↓e_aload_n, ↓e_astore, ↓e_astore_n, ↓e_iinc0, ↓e_iinc1, ↓e_iadd, ↓e_isub, ↓e_imul, ↓e_iand, ↓e_ior, ↓e_ixor, ↓e_ishl, ↓e_ishr, ↓e_iushr, ↓e_ladd, ↓e_lsub, ↓e_lmul, ↓e_land, ↓e_lor, ↓e_idiv, ↓e_irem, ↓e_ldiv, ↓e_lrem, ↓e_lshl, ↓e_lcmp, ↓e_i2l, ↓e_l2i, ↓e_i2b, ↓e_i2s, ↓e_dup_int, ↓e_pop_int, ↓e_dup_ref, ↓e_pop_ref, ↓e_dup2, ↓e_goto, ↓e_nop, ↓e_ifCond_eq, ↓e_if_icmp_eq, ↓e_ifCond_ne, ↓e_if_icmp_ne, ↓e_ifCond_lt, ↓e_if_icmp_lt, ↓e_ifCond_ge, ↓e_if_icmp_ge, ↓e_ifCond_gt, ↓e_if_icmp_gt, ↓e_ifCond_le, ↓e_if_icmp_le, ↓e_tab, ↓e_look, ↓e_get0, ↓e_get1, ↓e_get2, ↓e_get3, ↓e_put0, ↓e_put1, ↓e_put2, ↓e_put3, ↓e_iaload, ↓e_laload, ↓e_baload, ↓e_aaload, ↓e_iastore, ↓e_lastore, ↓e_bastore, ↓e_aastore, ↓e_alen, ↓e_new, ↓e_newarray, ↓e_anewarray, ↓e_objinit, ↓e_virt1, ↓e_virt2, ↓e_virt3, ↓e_virt4, ↓e_virt5, ↓e_virt6, ↓e_virt7, ↓e_stat0, ↓e_stat1, ↓e_stat2, ↓e_stat3, ↓e_stat4, ↓e_stat5, ↓e_stat6, ↓e_stat7, ↓e_spec1, ↓e_spec2, ↓e_spec3, ↓e_spec4, ↓e_spec5, ↓e_strlen, ↓e_charAt, ↓e_copy, ↓e_iret0, ↓e_iret1, ↓e_lret, ↓e_aret, ↓e_vret, zIsI_int, zIsL_long, zIsA_ref, zInt_int, true_and, and_true, ↓reduceIte, zGet, zSet, zSet2, zEnt, zWid, Value.category, List.map_cons, List.map_nil, List.sum_cons, List.sum_nil, List.replicate, Option.toList, Nat.reduceAdd, Nat.reduceSub, Nat.reduceMul, Nat.reduceLeDiff, Nat.reduceEqDiff, Nat.reduceLT, List.cons_append, List.nil_append, true_or, or_true, or_false, false_or, hz, al_K0 hn, al_s hn, nIlt0, nI_clamp, Nat.reduceLeDiff, not_false_eq_true, List.nil_append, List.cons_append]
theorem c_newOffice (hn : σ.1.length = n) (h : n < 1000) : ∃ τ, Ag (fun c => n ≤ c ∧ c ≤ n + 11) (alO σ 5 [(8, 1, 8), (9, 2, 8), (10, 1, 8), (11, 1, 8), (12, 2, 8), (13, 1, 4), (14, 2, 4), (15, 1, 20), (16, 1, 80), (17, 1, 64), (18, 1, 20)]) τ ∧ ROff τ n Ofc.nil ∧ ∀ K, zC (d + 4) 38 [.ref n] (zNew σ (0, 5)) K = K none τ := by
  have hz : n < zNul := by show n < 1000000; omega
  have kk := fun i => al_Ki hn 5 [(8, 1, 8), (9, 2, 8), (10, 1, 8), (11, 1, 8), (12, 2, 8), (13, 1, 4), (14, 2, 4), (15, 1, 20), (16, 1, 80), (17, 1, 64), (18, 1, 20)] i
  have rr := fun f i h => al_R hn 5 [(8, 1, 8), (9, 2, 8), (10, 1, 8), (11, 1, 8), (12, 2, 8), (13, 1, 4), (14, 2, 4), (15, 1, 20), (16, 1, 80), (17, 1, 64), (18, 1, 20)] (f := f) (i := i) h
  have G : ROffK (alO σ 5 [(8, 1, 8), (9, 2, 8), (10, 1, 8), (11, 1, 8), (12, 2, 8), (13, 1, 4), (14, 2, 4), (15, 1, 20), (16, 1, 80), (17, 1, 64), (18, 1, 20)]) n := ROffK.mk (al_K hn _ _) (rr 8 0 rfl) (rr 9 1 rfl) (rr 10 2 rfl) (rr 11 3 rfl) (rr 12 4 rfl) (rr 13 5 rfl) (rr 14 6 rfl) (rr 15 7 rfl) (rr 16 8 rfl) (rr 17 9 rfl) (rr 18 10 rfl) (kk 0) (kk 1) (kk 2) (kk 3) (kk 4) (kk 5) (kk 6) (kk 7) (kk 8) (kk 9) (kk 10)
  obtain ⟨τ, f, H, c⟩ := c_clear (d := d) G
  refine ⟨τ, f, H, fun K => ?_⟩
  have k0 := G.k
  rw [al_0, E_38]
  simp (disch := omega) only [L_38_0, zt_38_0, ↓e_iconst0, ↓e_iconst1, ↓e_bipush0, ↓e_bipush1, ↓e_sipush0, ↓e_sipush1, ↓e_ldc0, ↓e_ldc1, ↓e_ldc_w0, ↓e_ldc_w1, ↓e_ldc2, ↓e_lconst0, ↓e_lconst1, ↓e_ldc2_w0, ↓e_ldc2_w1, ↓e_iload, ↓e_iload_n, ↓e_istore, ↓e_istore_n, ↓e_lload, ↓e_lload_n, ↓e_lstore, ↓e_lstore_n, ↓e_aload, ↓e_aload_n, ↓e_astore, ↓e_astore_n, ↓e_iinc0, ↓e_iinc1, ↓e_iadd, ↓e_isub, ↓e_imul, ↓e_iand, ↓e_ior, ↓e_ixor, ↓e_ishl, ↓e_ishr, ↓e_iushr, ↓e_ladd, ↓e_lsub, ↓e_lmul, ↓e_land, ↓e_lor, ↓e_idiv, ↓e_irem, ↓e_ldiv, ↓e_lrem, ↓e_lshl, ↓e_lcmp, ↓e_i2l, ↓e_l2i, ↓e_i2b, ↓e_i2s, ↓e_dup_int, ↓e_pop_int, ↓e_dup_ref, ↓e_pop_ref, ↓e_dup2, ↓e_goto, ↓e_nop, ↓e_ifCond_eq, ↓e_if_icmp_eq, ↓e_ifCond_ne, ↓e_if_icmp_ne, ↓e_ifCond_lt, ↓e_if_icmp_lt, ↓e_ifCond_ge, ↓e_if_icmp_ge, ↓e_ifCond_gt, ↓e_if_icmp_gt, ↓e_ifCond_le, ↓e_if_icmp_le, ↓e_tab, ↓e_look, ↓e_get0, ↓e_get1, ↓e_get2, ↓e_get3, ↓e_put0, ↓e_put1, ↓e_put2, ↓e_put3, ↓e_iaload, ↓e_laload, ↓e_baload, ↓e_aaload, ↓e_iastore, ↓e_lastore, ↓e_bastore, ↓e_aastore, ↓e_alen, ↓e_new, ↓e_newarray, ↓e_anewarray, ↓e_objinit, ↓e_virt1, ↓e_virt2, ↓e_virt3, ↓e_virt4, ↓e_virt5, ↓e_virt6, ↓e_virt7, ↓e_stat0, ↓e_stat1, ↓e_stat2, ↓e_stat3, ↓e_stat4, ↓e_stat5, ↓e_stat6, ↓e_stat7, ↓e_spec1, ↓e_spec2, ↓e_spec3, ↓e_spec4, ↓e_spec5, ↓e_strlen, ↓e_charAt, ↓e_copy, ↓e_iret0, ↓e_iret1, ↓e_lret, ↓e_aret, ↓e_vret, zIsI_int, zIsL_long, zIsA_ref, zInt_int, true_and, and_true, ↓reduceIte, zGet, zSet, zSet2, zEnt, zWid, Value.category, List.map_cons, List.map_nil, List.sum_cons, List.sum_nil, List.replicate, Option.toList, Nat.reduceAdd, Nat.reduceSub, Nat.reduceMul, Nat.reduceLeDiff, Nat.reduceEqDiff, Nat.reduceLT, List.cons_append, List.nil_append, true_or, or_true, or_false, false_or, hz, al_K0 hn, al_s hn, nIlt0, nI_clamp, Nat.reduceLeDiff, not_false_eq_true, List.nil_append, List.cons_append, k0, ↓c]
end ALC
