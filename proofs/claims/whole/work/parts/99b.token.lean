/-! TOKENS -/
abbrev Tk : Type := Nat × Nat × Nat
def tkAt (B : Nat → Nat) (n s : Nat) : Tk := if n ≤ s then (0, s, s) else if isLe (B s) = true then (2, s, skp isLe B n s) else if isDi (B s) = true then (if skp isDi B n s - s ≤ 4 then 3 else 1, s, skp isDi B n s) else (if isSg (B s) = true then 4 else 1, s, s + 1)
/-- the token behind the place j: its kind, its start, its end -/
def tk (B : Nat → Nat) (n j : Nat) : Tk := tkAt B n (skp isBl B n j)
/-- the letters of a word -/
def wl (B : Nat → Nat) (s e : Nat) : List Nat := (List.range (e - s)).map (fun i => B (s + i) - 96)
def wTab : List (List Nat) := [[6, 12, 15, 15, 18], [2, 25], [14, 5, 1, 18], [15, 4, 4, 19], [13, 1, 18, 11], [23, 5, 9, 7, 8, 19], [16, 1, 16, 5, 18], [3, 12, 5, 18, 11], [1, 20], [12, 9, 5, 19], [6, 9, 12, 5], [20, 1, 11, 5], [19, 23, 1, 16], [19, 15, 18, 20], [1, 19, 11], [1, 14, 25], [23, 8, 5, 14], [2, 5, 19, 9, 4, 5], [20, 15, 20, 1, 12], [12, 15, 15, 16], [5, 14, 4], [19, 20, 15, 16]]
/-- the words that no name may be -/
def WL (k : Nat) : List Nat := wTab.getD k []
def wno (l : List Nat) : Option Nat := ff (fun k => WL k == l) 22
theorem WL_27 : ∀ i, i < 22 → ∀ k, k < 22 → nm27 (WL i) = nm27 (WL k) → i = k := by decide +kernel
theorem WL_lt : ∀ i, i < 22 → 0 < nm27 (WL i) ∧ nm27 (WL i) < 2 ^ 63 ∧ (WL i).length ≤ 6 := by decide +kernel
theorem WL_ch : ∀ i, i < 22 → (decide (1 ≤ (WL i).length) && (WL i).all (fun c => decide (1 ≤ c) && decide (c ≤ 26))) = true := by decide +kernel
theorem WL_Nm {i : Nat} (h : i < 22) : Nm (WL i) := by
  have h1 := WL_ch i h
  have h2 := (WL_lt i h).2.2
  rw [Bool.and_eq_true, decide_eq_true_eq, List.all_eq_true] at h1
  refine ⟨h1.1, by omega, fun c hc => ?_⟩
  have := h1.2 c hc
  rw [Bool.and_eq_true, decide_eq_true_eq, decide_eq_true_eq] at this
  exact this
section TKN
variable {d : Nat} {σ τ : MS} {n s : Nat} {B : Nat → Nat} {K : Option Value → MS → Prop}
theorem wl_len (s e : Nat) : (wl B s e).length = e - s := by unfold wl; rw [List.length_map, List.length_range]
theorem wl_s {j : Nat} (h : s ≤ j) : wl B s (j + 1) = wl B s j ++ [B j - 96] := by
  unfold wl
  rw [show j + 1 - s = (j - s) + 1 by omega, List.range_succ, List.map_append]
  show _ ++ [B (s + (j - s)) - 96] = _
  rw [show s + (j - s) = j by omega]
theorem wl_0 : wl B s s = [] := by unfold wl; rw [Nat.sub_self]; rfl
theorem nm27_s (l : List Nat) (c : Nat) : nm27 (l ++ [c]) = nm27 l * 27 + c := by unfold nm27; rw [List.foldl_append]; rfl
theorem nm256_s (l : List Nat) (c : Nat) : nm256 (l ++ [c]) = nm256 l * 256 + (c + 96) := by unfold nm256; rw [List.foldl_append]; rfl
theorem isLe_le {k : Nat} (h : isLe k = true) : 97 ≤ k ∧ k ≤ 122 := by
  unfold isLe at h
  rw [Bool.and_eq_true, decide_eq_true_eq, decide_eq_true_eq] at h
  exact h
theorem isDi_le {k : Nat} (h : isDi k = true) : 48 ≤ k ∧ k ≤ 57 := by
  unfold isDi at h
  rw [Bool.and_eq_true, decide_eq_true_eq, decide_eq_true_eq] at h
  exact h
theorem wl_in {e : Nat} (hl : ∀ i, s ≤ i → i < e → isLe (B i) = true) : ∀ c, c ∈ wl B s e → 1 ≤ c ∧ c ≤ 26 := by
  intro c hc
  unfold wl at hc
  rw [List.mem_map] at hc
  obtain ⟨i, hi, rfl⟩ := hc
  rw [List.mem_range] at hi
  have := isLe_le (hl (s + i) (by omega) (by omega))
  omega
theorem wl_Nm {e : Nat} (hl : ∀ i, s ≤ i → i < e → isLe (B i) = true) (h1 : s < e) (h8 : e - s ≤ 8) : Nm (wl B s e) := ⟨by rw [wl_len]; omega, by rw [wl_len]; omega, wl_in hl⟩
theorem setL_two (σ : MS) (b i : Nat) (v w : Int64) : setL (setL σ b i v) b i w = setL σ b i w := by
  rw [setL_eq_upL σ b i v, setL_upL, setL_eq_upL σ b i w]
  congr 1
  funext j
  by_cases h : j = i
  · rw [if_pos h, if_pos h]
  · rw [if_neg h, if_neg h, if_neg h]
theorem set_107 (σ : MS) (a b : Int64) (j c : Int32) : setI (setL (setI (setL σ 98 7 a) 98 10 j) 98 7 b) 98 10 c = setI (setL σ 98 7 b) 98 10 c := by
  show setI (setI (setL (setL σ 98 7 a) 98 7 b) 98 10 j) 98 10 c = _
  rw [setI_setI, setL_two]
theorem c_letterCode {k : Nat} (h : isLe k = true) : zC (d + 1) 118 [.int (nI k)] σ K = K (some (.int (nI (k - 96)))) σ := by
  have := isLe_le h
  rw [E_118]
  simp (disch := omega) only [L_118_0, zt_118_0, ↓e_iconst0, ↓e_iconst1, ↓e_bipush0, ↓e_bipush1, ↓e_sipush0, ↓e_sipush1, ↓e_ldc0, ↓e_ldc1, ↓e_ldc_w0, ↓e_ldc_w1, ↓e_ldc2, ↓e_lconst0, ↓e_lconst1, ↓e_ldc2_w0, ↓e_ldc2_w1, ↓e_iload, ↓e_iload_n, ↓e_istore, ↓e_istore_n, ↓e_lload, ↓e_lload_n, ↓e_lstore, ↓e_lstore_n, ↓e_aload, ↓e_aload_n, ↓e_astore, ↓e_astore_n, ↓e_iinc0, ↓e_iinc1, ↓e_iadd, ↓e_isub, ↓e_imul, ↓e_iand, ↓e_ior, ↓e_ixor, ↓e_ishl, ↓e_ishr, ↓e_iushr, ↓e_ladd, ↓e_lsub, ↓e_lmul, ↓e_land, ↓e_lor, ↓e_idiv, ↓e_irem, ↓e_ldiv, ↓e_lrem, ↓e_lshl, ↓e_lcmp, ↓e_i2l, ↓e_l2i, ↓e_i2b, ↓e_i2s, ↓e_dup_int, ↓e_pop_int, ↓e_dup_ref, ↓e_pop_ref, ↓e_dup2, ↓e_goto, ↓e_nop, ↓e_ifCond_eq, ↓e_if_icmp_eq, ↓e_ifCond_ne, ↓e_if_icmp_ne, ↓e_ifCond_lt, ↓e_if_icmp_lt, ↓e_ifCond_ge, ↓e_if_icmp_ge, ↓e_ifCond_gt, ↓e_if_icmp_gt, ↓e_ifCond_le, ↓e_if_icmp_le, ↓e_tab, ↓e_look, ↓e_get0, ↓e_get1, ↓e_get2, ↓e_get3, ↓e_put0, ↓e_put1, ↓e_put2, ↓e_put3, ↓e_iaload, ↓e_laload, ↓e_baload, ↓e_aaload, ↓e_iastore, ↓e_lastore, ↓e_bastore, ↓e_aastore, ↓e_alen, ↓e_new, ↓e_newarray, ↓e_anewarray, ↓e_objinit, ↓e_virt1, ↓e_virt2, ↓e_virt3, ↓e_virt4, ↓e_virt5, ↓e_virt6, ↓e_virt7, ↓e_stat0, ↓e_stat1, ↓e_stat2, ↓e_stat3, ↓e_stat4, ↓e_stat5, ↓e_stat6, ↓e_stat7, ↓e_spec1, ↓e_spec2, ↓e_spec3, ↓e_spec4, ↓e_spec5, ↓e_strlen, ↓e_charAt, ↓e_copy, ↓e_iret0, ↓e_iret1, ↓e_lret, ↓e_aret, ↓e_vret, zIsI_int, zIsL_long, zIsA_ref, zInt_int, true_and, and_true, ↓reduceIte, zGet, zSet, zSet2, zEnt, zWid, Value.category, List.map_cons, List.map_nil, List.sum_cons, List.sum_nil, List.replicate, Option.toList, Nat.reduceAdd, Nat.reduceSub, Nat.reduceMul, Nat.reduceLeDiff, Nat.reduceEqDiff, Nat.reduceLT, List.cons_append, List.nil_append, true_or, or_true, or_false, false_or, nI_ltI, nI_leI, nI_eq, nI_clamp, zIn_nI, bI_0, nI_add, nI_mul, nI_or, nI_and, nI_shl1, nI_bit, ↓pk_rem, pk_div, Nat.lt_irrefl, Nat.not_lt_zero, reduceCtorEq, nI_sub]
  rw [show k - 97 + 1 = k - 96 by omega]
/-- the class's name after some letters -/
def n8 (B : Nat → Nat) (s j : Nat) : Nat := nm27 (wl B s (min j (s + 8)))
theorem n8_s {j : Nat} (h : s ≤ j) (h8 : j - s < 8) : n8 B s (j + 1) = n8 B s j * 27 + (B j - 96) := by
  unfold n8
  rw [Nat.min_eq_left (by omega), Nat.min_eq_left (by omega), wl_s h, nm27_s]
theorem n8_k {j : Nat} (h8 : 8 ≤ j - s) : n8 B s (j + 1) = n8 B s j := by
  unfold n8
  rw [Nat.min_eq_right (by omega), Nat.min_eq_right (by omega)]
/-- the class passes letters -/
theorem c_letters (X : RTx σ) (hn : sI σ 98 11 = nI n) (hs : sI σ 98 3 = nI s) (h9 : n ≤ 900) (hb : ∀ j, j < n → bx (B j) (sI σ 99 j)) : ∀ k j, n - j = k → s ≤ j → j ≤ n → zX (d + 1) 112 10 [.ref 98, .null] [] (setI (setL σ 98 7 (lN (n8 B s j))) 98 10 (nI j)) K = zX (d + 1) 112 89 [.ref 98, .null] [] (setI (setL σ 98 7 (lN (n8 B s (skp isLe B n j)))) 98 10 (nI (skp isLe B n j))) K := by
  have X2 : ∀ u v, RTx (setI (setL σ 98 7 u) 98 10 v) := fun u v => X.ag ((Ag.rf.setL (p := fun b => b = 98) rfl).setI rfl)
  have n2 : ∀ u v, sI (setI (setL σ 98 7 u) 98 10 v) 98 11 = nI n := fun u v => by rw [sI_setI, if_neg (by omega)]; exact hn
  have s2 : ∀ u v, sI (setI (setL σ 98 7 u) 98 10 v) 98 3 = nI s := fun u v => by rw [sI_setI, if_neg (by omega)]; exact hs
  have i2 : ∀ u v, sI (setI (setL σ 98 7 u) 98 10 v) 98 10 = v := fun u v => by rw [sI_setI, if_pos ⟨rfl, rfl⟩]
  have i3 : ∀ u v w, sI (setL (setI (setL σ 98 7 u) 98 10 v) 98 7 w) 98 10 = v := fun u v w => by rw [sI_setL, i2]
  have l2 : ∀ u v, sL (setI (setL σ 98 7 u) 98 10 v) 98 7 = u := fun u v => by rw [sL_setI, sL_setL, if_pos ⟨rfl, rfl⟩]
  have t2 : ∀ u v j, sI (setI (setL σ 98 7 u) 98 10 v) 99 j = sI σ 99 j := fun u v j => by rw [sI_setI, if_neg (by omega), sI_setL]
  intro k
  induction k with
  | zero =>
    intro j h1 hsj h2
    have hj : ¬ j < n := by omega
    have Y := X2 (lN (n8 B s j)) (nI j)
    rw [skp_n (fun hh => hj hh.1), L_112_10, zt_112_10]
    simp (disch := omega) only [↓e_iconst0, ↓e_iconst1, ↓e_bipush0, ↓e_bipush1, ↓e_sipush0, ↓e_sipush1, ↓e_ldc0, ↓e_ldc1, ↓e_ldc_w0, ↓e_ldc_w1, ↓e_ldc2, ↓e_lconst0, ↓e_lconst1, ↓e_ldc2_w0, ↓e_ldc2_w1, ↓e_iload, ↓e_iload_n, ↓e_istore, ↓e_istore_n, ↓e_lload, ↓e_lload_n, ↓e_lstore, ↓e_lstore_n, ↓e_aload, ↓e_aload_n, ↓e_astore, ↓e_astore_n, ↓e_iinc0, ↓e_iinc1, ↓e_iadd, ↓e_isub, ↓e_imul, ↓e_iand, ↓e_ior, ↓e_ixor, ↓e_ishl, ↓e_ishr, ↓e_iushr, ↓e_ladd, ↓e_lsub, ↓e_lmul, ↓e_land, ↓e_lor, ↓e_idiv, ↓e_irem, ↓e_ldiv, ↓e_lrem, ↓e_lshl, ↓e_lcmp, ↓e_i2l, ↓e_l2i, ↓e_i2b, ↓e_i2s, ↓e_dup_int, ↓e_pop_int, ↓e_dup_ref, ↓e_pop_ref, ↓e_dup2, ↓e_goto, ↓e_nop, ↓e_ifCond_eq, ↓e_if_icmp_eq, ↓e_ifCond_ne, ↓e_if_icmp_ne, ↓e_ifCond_lt, ↓e_if_icmp_lt, ↓e_ifCond_ge, ↓e_if_icmp_ge, ↓e_ifCond_gt, ↓e_if_icmp_gt, ↓e_ifCond_le, ↓e_if_icmp_le, ↓e_tab, ↓e_look, ↓e_get0, ↓e_get1, ↓e_get2, ↓e_get3, ↓e_put0, ↓e_put1, ↓e_put2, ↓e_put3, ↓e_iaload, ↓e_laload, ↓e_baload, ↓e_aaload, ↓e_iastore, ↓e_lastore, ↓e_bastore, ↓e_aastore, ↓e_alen, ↓e_new, ↓e_newarray, ↓e_anewarray, ↓e_objinit, ↓e_virt1, ↓e_virt2, ↓e_virt3, ↓e_virt4, ↓e_virt5, ↓e_virt6, ↓e_virt7, ↓e_stat0, ↓e_stat1, ↓e_stat2, ↓e_stat3, ↓e_stat4, ↓e_stat5, ↓e_stat6, ↓e_stat7, ↓e_spec1, ↓e_spec2, ↓e_spec3, ↓e_spec4, ↓e_spec5, ↓e_strlen, ↓e_charAt, ↓e_copy, ↓e_iret0, ↓e_iret1, ↓e_lret, ↓e_aret, ↓e_vret, zIsI_int, zIsL_long, zIsA_ref, zInt_int, true_and, and_true, ↓reduceIte, zGet, zSet, zSet2, zEnt, zWid, Value.category, List.map_cons, List.map_nil, List.sum_cons, List.sum_nil, List.replicate, Option.toList, Nat.reduceAdd, Nat.reduceSub, Nat.reduceMul, Nat.reduceLeDiff, Nat.reduceEqDiff, Nat.reduceLT, List.cons_append, List.nil_append, true_or, or_true, or_false, false_or, nI_ltI, nI_leI, nI_eq, nI_clamp, zIn_nI, bI_0, nI_add, nI_mul, nI_or, nI_and, nI_shl1, nI_bit, ↓pk_rem, pk_div, Nat.lt_irrefl, Nat.not_lt_zero, reduceCtorEq, Y.k, n2, i2, hj]
  | succ k ih =>
    intro j h1 hsj h2
    have hj : j < n := by omega
    have hj9 : j < 900 := by omega
    have Y := X2 (lN (n8 B s j)) (nI j)
    have b := hb j hj
    rw [L_112_10, zt_112_10]
    cases e : isLe (B j) with
    | true =>
      have hle := isLe_le e
      have eb : sI σ 99 j = nI (B j) := b.2.2.1 (by omega)
      have b' : bx (B j) (nI (B j)) := by rw [← eb]; exact b
      rw [skp_y hj e, ← ih (j + 1) (by omega) (by omega) (by omega)]
      by_cases h8 : j - s < 8
      · rw [n8_s hsj h8]
        simp (disch := omega) only [L_112_76, zt_112_76, ↓e_iconst0, ↓e_iconst1, ↓e_bipush0, ↓e_bipush1, ↓e_sipush0, ↓e_sipush1, ↓e_ldc0, ↓e_ldc1, ↓e_ldc_w0, ↓e_ldc_w1, ↓e_ldc2, ↓e_lconst0, ↓e_lconst1, ↓e_ldc2_w0, ↓e_ldc2_w1, ↓e_iload, ↓e_iload_n, ↓e_istore, ↓e_istore_n, ↓e_lload, ↓e_lload_n, ↓e_lstore, ↓e_lstore_n, ↓e_aload, ↓e_aload_n, ↓e_astore, ↓e_astore_n, ↓e_iinc0, ↓e_iinc1, ↓e_iadd, ↓e_isub, ↓e_imul, ↓e_iand, ↓e_ior, ↓e_ixor, ↓e_ishl, ↓e_ishr, ↓e_iushr, ↓e_ladd, ↓e_lsub, ↓e_lmul, ↓e_land, ↓e_lor, ↓e_idiv, ↓e_irem, ↓e_ldiv, ↓e_lrem, ↓e_lshl, ↓e_lcmp, ↓e_i2l, ↓e_l2i, ↓e_i2b, ↓e_i2s, ↓e_dup_int, ↓e_pop_int, ↓e_dup_ref, ↓e_pop_ref, ↓e_dup2, ↓e_goto, ↓e_nop, ↓e_ifCond_eq, ↓e_if_icmp_eq, ↓e_ifCond_ne, ↓e_if_icmp_ne, ↓e_ifCond_lt, ↓e_if_icmp_lt, ↓e_ifCond_ge, ↓e_if_icmp_ge, ↓e_ifCond_gt, ↓e_if_icmp_gt, ↓e_ifCond_le, ↓e_if_icmp_le, ↓e_tab, ↓e_look, ↓e_get0, ↓e_get1, ↓e_get2, ↓e_get3, ↓e_put0, ↓e_put1, ↓e_put2, ↓e_put3, ↓e_iaload, ↓e_laload, ↓e_baload, ↓e_aaload, ↓e_iastore, ↓e_lastore, ↓e_bastore, ↓e_aastore, ↓e_alen, ↓e_new, ↓e_newarray, ↓e_anewarray, ↓e_objinit, ↓e_virt1, ↓e_virt2, ↓e_virt3, ↓e_virt4, ↓e_virt5, ↓e_virt6, ↓e_virt7, ↓e_stat0, ↓e_stat1, ↓e_stat2, ↓e_stat3, ↓e_stat4, ↓e_stat5, ↓e_stat6, ↓e_stat7, ↓e_spec1, ↓e_spec2, ↓e_spec3, ↓e_spec4, ↓e_spec5, ↓e_strlen, ↓e_charAt, ↓e_copy, ↓e_iret0, ↓e_iret1, ↓e_lret, ↓e_aret, ↓e_vret, zIsI_int, zIsL_long, zIsA_ref, zInt_int, true_and, and_true, ↓reduceIte, zGet, zSet, zSet2, zEnt, zWid, Value.category, List.map_cons, List.map_nil, List.sum_cons, List.sum_nil, List.replicate, Option.toList, Nat.reduceAdd, Nat.reduceSub, Nat.reduceMul, Nat.reduceLeDiff, Nat.reduceEqDiff, Nat.reduceLT, List.cons_append, List.nil_append, true_or, or_true, or_false, false_or, nI_ltI, nI_leI, nI_eq, nI_clamp, zIn_nI, bI_0, nI_add, nI_mul, nI_or, nI_and, nI_shl1, nI_bit, ↓pk_rem, pk_div, Nat.lt_irrefl, Nat.not_lt_zero, reduceCtorEq, Y.k, Y.r0, Y.k99, n2, i2, i3, s2, l2, t2, hj, hj9, eb, ↓c_isLetter b', e, nI_sub, h8, ↓c_letterCode e, nI_l, lN_mul', lN_add, sK_setL, sK_setI, set_107, show bI true = nI 1 from rfl]
      · rw [n8_k (by omega)]
        simp (disch := omega) only [L_112_76, zt_112_76, ↓e_iconst0, ↓e_iconst1, ↓e_bipush0, ↓e_bipush1, ↓e_sipush0, ↓e_sipush1, ↓e_ldc0, ↓e_ldc1, ↓e_ldc_w0, ↓e_ldc_w1, ↓e_ldc2, ↓e_lconst0, ↓e_lconst1, ↓e_ldc2_w0, ↓e_ldc2_w1, ↓e_iload, ↓e_iload_n, ↓e_istore, ↓e_istore_n, ↓e_lload, ↓e_lload_n, ↓e_lstore, ↓e_lstore_n, ↓e_aload, ↓e_aload_n, ↓e_astore, ↓e_astore_n, ↓e_iinc0, ↓e_iinc1, ↓e_iadd, ↓e_isub, ↓e_imul, ↓e_iand, ↓e_ior, ↓e_ixor, ↓e_ishl, ↓e_ishr, ↓e_iushr, ↓e_ladd, ↓e_lsub, ↓e_lmul, ↓e_land, ↓e_lor, ↓e_idiv, ↓e_irem, ↓e_ldiv, ↓e_lrem, ↓e_lshl, ↓e_lcmp, ↓e_i2l, ↓e_l2i, ↓e_i2b, ↓e_i2s, ↓e_dup_int, ↓e_pop_int, ↓e_dup_ref, ↓e_pop_ref, ↓e_dup2, ↓e_goto, ↓e_nop, ↓e_ifCond_eq, ↓e_if_icmp_eq, ↓e_ifCond_ne, ↓e_if_icmp_ne, ↓e_ifCond_lt, ↓e_if_icmp_lt, ↓e_ifCond_ge, ↓e_if_icmp_ge, ↓e_ifCond_gt, ↓e_if_icmp_gt, ↓e_ifCond_le, ↓e_if_icmp_le, ↓e_tab, ↓e_look, ↓e_get0, ↓e_get1, ↓e_get2, ↓e_get3, ↓e_put0, ↓e_put1, ↓e_put2, ↓e_put3, ↓e_iaload, ↓e_laload, ↓e_baload, ↓e_aaload, ↓e_iastore, ↓e_lastore, ↓e_bastore, ↓e_aastore, ↓e_alen, ↓e_new, ↓e_newarray, ↓e_anewarray, ↓e_objinit, ↓e_virt1, ↓e_virt2, ↓e_virt3, ↓e_virt4, ↓e_virt5, ↓e_virt6, ↓e_virt7, ↓e_stat0, ↓e_stat1, ↓e_stat2, ↓e_stat3, ↓e_stat4, ↓e_stat5, ↓e_stat6, ↓e_stat7, ↓e_spec1, ↓e_spec2, ↓e_spec3, ↓e_spec4, ↓e_spec5, ↓e_strlen, ↓e_charAt, ↓e_copy, ↓e_iret0, ↓e_iret1, ↓e_lret, ↓e_aret, ↓e_vret, zIsI_int, zIsL_long, zIsA_ref, zInt_int, true_and, and_true, ↓reduceIte, zGet, zSet, zSet2, zEnt, zWid, Value.category, List.map_cons, List.map_nil, List.sum_cons, List.sum_nil, List.replicate, Option.toList, Nat.reduceAdd, Nat.reduceSub, Nat.reduceMul, Nat.reduceLeDiff, Nat.reduceEqDiff, Nat.reduceLT, List.cons_append, List.nil_append, true_or, or_true, or_false, false_or, nI_ltI, nI_leI, nI_eq, nI_clamp, zIn_nI, bI_0, nI_add, nI_mul, nI_or, nI_and, nI_shl1, nI_bit, ↓pk_rem, pk_div, Nat.lt_irrefl, Nat.not_lt_zero, reduceCtorEq, Y.k, Y.r0, Y.k99, n2, i2, s2, l2, t2, hj, hj9, eb, ↓c_isLetter b', e, nI_sub, h8, setI_setI, show bI true = nI 1 from rfl]
    | false =>
      rw [skp_n (fun hh => by rw [e] at hh; cases hh.2)]
      simp (disch := omega) only [↓e_iconst0, ↓e_iconst1, ↓e_bipush0, ↓e_bipush1, ↓e_sipush0, ↓e_sipush1, ↓e_ldc0, ↓e_ldc1, ↓e_ldc_w0, ↓e_ldc_w1, ↓e_ldc2, ↓e_lconst0, ↓e_lconst1, ↓e_ldc2_w0, ↓e_ldc2_w1, ↓e_iload, ↓e_iload_n, ↓e_istore, ↓e_istore_n, ↓e_lload, ↓e_lload_n, ↓e_lstore, ↓e_lstore_n, ↓e_aload, ↓e_aload_n, ↓e_astore, ↓e_astore_n, ↓e_iinc0, ↓e_iinc1, ↓e_iadd, ↓e_isub, ↓e_imul, ↓e_iand, ↓e_ior, ↓e_ixor, ↓e_ishl, ↓e_ishr, ↓e_iushr, ↓e_ladd, ↓e_lsub, ↓e_lmul, ↓e_land, ↓e_lor, ↓e_idiv, ↓e_irem, ↓e_ldiv, ↓e_lrem, ↓e_lshl, ↓e_lcmp, ↓e_i2l, ↓e_l2i, ↓e_i2b, ↓e_i2s, ↓e_dup_int, ↓e_pop_int, ↓e_dup_ref, ↓e_pop_ref, ↓e_dup2, ↓e_goto, ↓e_nop, ↓e_ifCond_eq, ↓e_if_icmp_eq, ↓e_ifCond_ne, ↓e_if_icmp_ne, ↓e_ifCond_lt, ↓e_if_icmp_lt, ↓e_ifCond_ge, ↓e_if_icmp_ge, ↓e_ifCond_gt, ↓e_if_icmp_gt, ↓e_ifCond_le, ↓e_if_icmp_le, ↓e_tab, ↓e_look, ↓e_get0, ↓e_get1, ↓e_get2, ↓e_get3, ↓e_put0, ↓e_put1, ↓e_put2, ↓e_put3, ↓e_iaload, ↓e_laload, ↓e_baload, ↓e_aaload, ↓e_iastore, ↓e_lastore, ↓e_bastore, ↓e_aastore, ↓e_alen, ↓e_new, ↓e_newarray, ↓e_anewarray, ↓e_objinit, ↓e_virt1, ↓e_virt2, ↓e_virt3, ↓e_virt4, ↓e_virt5, ↓e_virt6, ↓e_virt7, ↓e_stat0, ↓e_stat1, ↓e_stat2, ↓e_stat3, ↓e_stat4, ↓e_stat5, ↓e_stat6, ↓e_stat7, ↓e_spec1, ↓e_spec2, ↓e_spec3, ↓e_spec4, ↓e_spec5, ↓e_strlen, ↓e_charAt, ↓e_copy, ↓e_iret0, ↓e_iret1, ↓e_lret, ↓e_aret, ↓e_vret, zIsI_int, zIsL_long, zIsA_ref, zInt_int, true_and, and_true, ↓reduceIte, zGet, zSet, zSet2, zEnt, zWid, Value.category, List.map_cons, List.map_nil, List.sum_cons, List.sum_nil, List.replicate, Option.toList, Nat.reduceAdd, Nat.reduceSub, Nat.reduceMul, Nat.reduceLeDiff, Nat.reduceEqDiff, Nat.reduceLT, List.cons_append, List.nil_append, true_or, or_true, or_false, false_or, nI_ltI, nI_leI, nI_eq, nI_clamp, zIn_nI, bI_0, nI_add, nI_mul, nI_or, nI_and, nI_shl1, nI_bit, ↓pk_rem, pk_div, Nat.lt_irrefl, Nat.not_lt_zero, reduceCtorEq, Y.k, Y.r0, Y.k99, n2, i2, t2, hj, hj9, ↓c_isLetter b, e, show bI false = nI 0 from rfl]
end TKN
