/-! THE FLOOR, NAMES -/
def up4 (g : Nat → Int32) (c : Nat) (v0 v1 v2 v3 : Int32) : Nat → Int32 := fun j => if j = c * 4 + 3 then v3 else if j = c * 4 + 2 then v2 else if j = c * 4 + 1 then v1 else if j = c * 4 then v0 else g j
theorem up4_eq (σ : MS) (b : Nat) (g : Nat → Int32) (c : Nat) (v0 v1 v2 v3 : Int32) : upA σ b (up4 g c v0 v1 v2 v3) = setI (setI (setI (setI (upA σ b g) b (c * 4) v0) b (c * 4 + 1) v1) b (c * 4 + 2) v2) b (c * 4 + 3) v3 := by
  rw [setI_upA, setI_upA, setI_upA, setI_upA]
  rfl
def Ofc.flr (A : Ofc) (w h : Nat) : Ofc := (A.setN 0 w).setN 1 h
section FLO
variable {d : Nat} {σ τ : MS} {a : Nat} {A : Ofc} {K : Option Value → MS → Prop}
theorem flr_wide (w h : Nat) : (A.flr w h).wide = w := rfl
theorem flr_high (w h : Nat) : (A.flr w h).high = h := rfl
/-- σ with the floor's three numbers -/
def flS (σ : MS) (a w h : Nat) : MS := setI (setI (setI σ a 0 (nI w)) a 1 (nI h)) a 2 (nI (w * h))
theorem flS_N (H : ROffN σ a A) (w h : Nat) : ROffN (flS σ a w h) a (A.flr w h) := by
  have i : ∀ j, 3 ≤ j → sI (flS σ a w h) a j = sI σ a j := fun j hj => by
    unfold flS
    rw [sI_setI, if_neg (by omega), sI_setI, if_neg (by omega), sI_setI, if_neg (by omega)]
  refine ROffN.mk H.k ?_ ?_ ?_ ((i 3 (by omega)).trans H.i3) ((i 4 (by omega)).trans H.i4) ((i 5 (by omega)).trans H.i5) ((i 6 (by omega)).trans H.i6) ((i 7 (by omega)).trans H.i7) H.r8 H.r9 H.r10 H.r11 H.r12 H.r13 H.r14 H.r15 H.r16 H.r17 H.r18 H.k1 H.k2 H.k3 H.k4 H.k5 H.k6 H.k7 H.k8 H.k9 H.k10 H.k11
  · unfold flS; simp [sI_setI]; rfl
  · unfold flS; simp [sI_setI]; rfl
  · unfold flS; simp [sI_setI]; rfl
theorem n_layFloor {w h : Nat} (H1 : ROffN (flS σ a w h) a (A.flr w h)) (w1 : 1 ≤ w) (w5 : w ≤ 5) (h1 : 1 ≤ h) (h4 : h ≤ 4) :
   ∃ g, (∀ c k, c < w * h → k < 4 → g (c * 4 + k) = oI ((A.flr w h).side c k)) ∧ ∀ K, zC (d + 2) 41 [.ref a, .int (nI w), .int (nI h)] σ K = K none (upA (flS σ a w h) (a + 9) g) := by
  have w20 : h * w ≤ 20 := Nat.mul_le_mul h4 w5
  obtain ⟨x, i1, e1⟩ := zloop (β := (Nat → Int32) × Value × Value) (fun r x => ∀ c k, c < r * w → k < 4 → x.1 (c * 4 + k) = oI ((A.flr w h).side c k)) (P := fun r x K => zX (d + 1) 41 49 [.ref a, .int (nI w), .int (nI h), .int (nI r), x.2.1, x.2.2] [] (upA (flS σ a w h) (a + 9) x.1) K) (n := h) (fun r x hr hx => by
    obtain ⟨g, j1, j2⟩ := x
    have hx : ∀ c k, c < r * w → k < 4 → g (c * 4 + k) = oI ((A.flr w h).side c k) := hx
    have rw1 : r * w + w ≤ h * w := by rw [← Nat.succ_mul]; exact Nat.mul_le_mul_right w hr
    have r4 : r < 4 := by omega
    obtain ⟨y, k1, e2⟩ := zloop (β := (Nat → Int32) × Value) (fun j x => ∀ c k, c < r * w + j → k < 4 → x.1 (c * 4 + k) = oI ((A.flr w h).side c k)) (P := fun j x K => zX (d + 1) 41 60 [.ref a, .int (nI w), .int (nI h), .int (nI r), .int (nI j), x.2] [] (upA (flS σ a w h) (a + 9) x.1) K) (n := w) (fun j x hj hx => by
      obtain ⟨g, j1⟩ := x
      have hx : ∀ c k, c < r * w + j → k < 4 → g (c * 4 + k) = oI ((A.flr w h).side c k) := hx
      have j5 : j < 5 := by omega
      have cd : (r * w + j) / w = r := by rw [Nat.mul_comm, Nat.mul_add_div (by omega), Nat.div_eq_of_lt hj, Nat.add_zero]
      have cm : (r * w + j) % w = j := by rw [Nat.mul_comm, Nat.mul_add_mod, Nat.mod_eq_of_lt hj]
      have b0 : (r * w + j) * 4 < 80 := by omega
      have b1 : (r * w + j) * 4 + 1 < 80 := by omega
      have b2 : (r * w + j) * 4 + 2 < 80 := by omega
      have b3 : (r * w + j) * 4 + 3 < 80 := by omega
      refine ⟨(up4 g (r * w + j) (oI ((A.flr w h).side (r * w + j) 0)) (oI ((A.flr w h).side (r * w + j) 1)) (oI ((A.flr w h).side (r * w + j) 2)) (oI ((A.flr w h).side (r * w + j) 3)), .int (nI (r * w + j))), fun c k hc hk => ?_, ?_⟩
      · show up4 g (r * w + j) _ _ _ _ (c * 4 + k) = _
        unfold up4
        by_cases hcc : c = r * w + j
        · subst hcc
          have hk4 : k = 0 ∨ k = 1 ∨ k = 2 ∨ k = 3 := by omega
          rcases hk4 with rfl | rfl | rfl | rfl
          · rw [if_neg (by omega), if_neg (by omega), if_neg (by omega), if_pos (by omega)]
          · rw [if_neg (by omega), if_neg (by omega), if_pos rfl]
          · rw [if_neg (by omega), if_pos rfl]
          · rw [if_pos rfl]
        · rw [if_neg (by omega), if_neg (by omega), if_neg (by omega), if_neg (by omega)]
          exact hx c k (by omega) hk
      · funext K
        have s0 : (A.flr w h).side (r * w + j) 0 = if 0 < r then some (r * w + j - w) else none := by unfold Ofc.side; simp only [flr_wide, cd]
        have s1 : (A.flr w h).side (r * w + j) 1 = if 0 < j then some (r * w + j - 1) else none := by unfold Ofc.side; simp only [flr_wide, cm]
        have s2 : (A.flr w h).side (r * w + j) 2 = if j + 1 < w then some (r * w + j + 1) else none := by unfold Ofc.side; simp only [flr_wide, cm]
        have s3 : (A.flr w h).side (r * w + j) 3 = if r + 1 < h then some (r * w + j + w) else none := by unfold Ofc.side; simp only [flr_wide, flr_high, cd]
        have hle : 0 < r → w ≤ r * w + j := fun h0 => by
          have := Nat.mul_le_mul_right w h0
          omega
        rw [s0, s1, s2, s3, up4_eq]
        have H : ROffN (upA (flS σ a w h) (a + 9) g) a (A.flr w h) := H1.keep (fun _ => rfl) (fun j => by rw [sI_upA, if_neg (by omega)]) (fun _ => rfl)
        generalize upA (flS σ a w h) (a + 9) g = ρ at H
        have q0 := H.i0
        have q1 := H.i1
        rw [flr_wide] at q0
        rw [flr_high] at q1
        have i9 : ∀ (ρ : MS) (i : Nat) (v : Int32) (j : Nat), sI (setI ρ (a + 9) i v) a j = sI ρ a j := fun ρ i v j => by rw [sI_setI, if_neg (by omega)]
        rw [L_41_60, zt_41_60]
        by_cases c0 : 0 < r
        · have := hle c0
          by_cases c1 : 0 < j <;> by_cases c2 : j + 1 < w <;> by_cases c3 : r + 1 < h <;>
          simp (disch := omega) only [L_41_102, zt_41_102, L_41_103, zt_41_103, L_41_126, zt_41_126, L_41_127, zt_41_127, L_41_156, zt_41_156, L_41_157, zt_41_157, L_41_188, zt_41_188, L_41_189, zt_41_189, L_41_196, zt_41_196, L_41_202, zt_41_202, ↓e_iconst0, ↓e_iconst1, ↓e_bipush0, ↓e_bipush1, ↓e_sipush0, ↓e_sipush1, ↓e_ldc0, ↓e_ldc1, ↓e_ldc_w0, ↓e_ldc_w1, ↓e_ldc2, ↓e_lconst0, ↓e_lconst1, ↓e_ldc2_w0, ↓e_ldc2_w1, ↓e_iload, ↓e_iload_n, ↓e_istore, ↓e_istore_n, ↓e_lload, ↓e_lload_n, ↓e_lstore, ↓e_lstore_n, ↓e_aload, ↓e_aload_n, ↓e_astore, ↓e_astore_n, ↓e_iinc0, ↓e_iinc1, ↓e_iadd, ↓e_isub, ↓e_imul, ↓e_iand, ↓e_ior, ↓e_ixor, ↓e_ishl, ↓e_ishr, ↓e_iushr, ↓e_ladd, ↓e_lsub, ↓e_lmul, ↓e_land, ↓e_lor, ↓e_idiv, ↓e_irem, ↓e_ldiv, ↓e_lrem, ↓e_lshl, ↓e_lcmp, ↓e_i2l, ↓e_l2i, ↓e_i2b, ↓e_i2s, ↓e_dup_int, ↓e_pop_int, ↓e_dup_ref, ↓e_pop_ref, ↓e_dup2, ↓e_goto, ↓e_nop, ↓e_ifCond_eq, ↓e_if_icmp_eq, ↓e_ifCond_ne, ↓e_if_icmp_ne, ↓e_ifCond_lt, ↓e_if_icmp_lt, ↓e_ifCond_ge, ↓e_if_icmp_ge, ↓e_ifCond_gt, ↓e_if_icmp_gt, ↓e_ifCond_le, ↓e_if_icmp_le, ↓e_tab, ↓e_look, ↓e_get0, ↓e_get1, ↓e_get2, ↓e_get3, ↓e_put0, ↓e_put1, ↓e_put2, ↓e_put3, ↓e_iaload, ↓e_laload, ↓e_baload, ↓e_aaload, ↓e_iastore, ↓e_lastore, ↓e_bastore, ↓e_aastore, ↓e_alen, ↓e_new, ↓e_newarray, ↓e_anewarray, ↓e_objinit, ↓e_virt1, ↓e_virt2, ↓e_virt3, ↓e_virt4, ↓e_virt5, ↓e_virt6, ↓e_virt7, ↓e_stat0, ↓e_stat1, ↓e_stat2, ↓e_stat3, ↓e_stat4, ↓e_stat5, ↓e_stat6, ↓e_stat7, ↓e_spec1, ↓e_spec2, ↓e_spec3, ↓e_spec4, ↓e_spec5, ↓e_strlen, ↓e_charAt, ↓e_copy, ↓e_iret0, ↓e_iret1, ↓e_lret, ↓e_aret, ↓e_vret, zIsI_int, zIsL_long, zIsA_ref, zInt_int, true_and, and_true, ↓reduceIte, zGet, zSet, zSet2, zEnt, zWid, Value.category, List.map_cons, List.map_nil, List.sum_cons, List.sum_nil, List.replicate, Option.toList, Nat.reduceAdd, Nat.reduceSub, Nat.reduceMul, Nat.reduceLeDiff, Nat.reduceEqDiff, Nat.reduceLT, List.cons_append, List.nil_append, true_or, or_true, or_false, false_or, H.k, q0, q1, H.r16, H.k9, nI_ltI, nI_leI, nI_eq, nI_clamp, zIn_nI, bI_0, nI_add, nI_mul, nI_or, nI_and, nI_shl1, nI_bit, ↓pk_rem, pk_div, Nat.lt_irrefl, Nat.not_lt_zero, reduceCtorEq, nI_sub, hj, j5, b0, b1, b2, b3, c0, c1, c2, c3, sK_setI, sR_setI, sL_setI, i9, if_true, if_false, show ∀ k, oI (some k) = nI k from fun _ => rfl, show oI none = -nI 1 from rfl]
        · by_cases c1 : 0 < j <;> by_cases c2 : j + 1 < w <;> by_cases c3 : r + 1 < h <;>
          simp (disch := omega) only [L_41_102, zt_41_102, L_41_103, zt_41_103, L_41_126, zt_41_126, L_41_127, zt_41_127, L_41_156, zt_41_156, L_41_157, zt_41_157, L_41_188, zt_41_188, L_41_189, zt_41_189, L_41_196, zt_41_196, L_41_202, zt_41_202, ↓e_iconst0, ↓e_iconst1, ↓e_bipush0, ↓e_bipush1, ↓e_sipush0, ↓e_sipush1, ↓e_ldc0, ↓e_ldc1, ↓e_ldc_w0, ↓e_ldc_w1, ↓e_ldc2, ↓e_lconst0, ↓e_lconst1, ↓e_ldc2_w0, ↓e_ldc2_w1, ↓e_iload, ↓e_iload_n, ↓e_istore, ↓e_istore_n, ↓e_lload, ↓e_lload_n, ↓e_lstore, ↓e_lstore_n, ↓e_aload, ↓e_aload_n, ↓e_astore, ↓e_astore_n, ↓e_iinc0, ↓e_iinc1, ↓e_iadd, ↓e_isub, ↓e_imul, ↓e_iand, ↓e_ior, ↓e_ixor, ↓e_ishl, ↓e_ishr, ↓e_iushr, ↓e_ladd, ↓e_lsub, ↓e_lmul, ↓e_land, ↓e_lor, ↓e_idiv, ↓e_irem, ↓e_ldiv, ↓e_lrem, ↓e_lshl, ↓e_lcmp, ↓e_i2l, ↓e_l2i, ↓e_i2b, ↓e_i2s, ↓e_dup_int, ↓e_pop_int, ↓e_dup_ref, ↓e_pop_ref, ↓e_dup2, ↓e_goto, ↓e_nop, ↓e_ifCond_eq, ↓e_if_icmp_eq, ↓e_ifCond_ne, ↓e_if_icmp_ne, ↓e_ifCond_lt, ↓e_if_icmp_lt, ↓e_ifCond_ge, ↓e_if_icmp_ge, ↓e_ifCond_gt, ↓e_if_icmp_gt, ↓e_ifCond_le, ↓e_if_icmp_le, ↓e_tab, ↓e_look, ↓e_get0, ↓e_get1, ↓e_get2, ↓e_get3, ↓e_put0, ↓e_put1, ↓e_put2, ↓e_put3, ↓e_iaload, ↓e_laload, ↓e_baload, ↓e_aaload, ↓e_iastore, ↓e_lastore, ↓e_bastore, ↓e_aastore, ↓e_alen, ↓e_new, ↓e_newarray, ↓e_anewarray, ↓e_objinit, ↓e_virt1, ↓e_virt2, ↓e_virt3, ↓e_virt4, ↓e_virt5, ↓e_virt6, ↓e_virt7, ↓e_stat0, ↓e_stat1, ↓e_stat2, ↓e_stat3, ↓e_stat4, ↓e_stat5, ↓e_stat6, ↓e_stat7, ↓e_spec1, ↓e_spec2, ↓e_spec3, ↓e_spec4, ↓e_spec5, ↓e_strlen, ↓e_charAt, ↓e_copy, ↓e_iret0, ↓e_iret1, ↓e_lret, ↓e_aret, ↓e_vret, zIsI_int, zIsL_long, zIsA_ref, zInt_int, true_and, and_true, ↓reduceIte, zGet, zSet, zSet2, zEnt, zWid, Value.category, List.map_cons, List.map_nil, List.sum_cons, List.sum_nil, List.replicate, Option.toList, Nat.reduceAdd, Nat.reduceSub, Nat.reduceMul, Nat.reduceLeDiff, Nat.reduceEqDiff, Nat.reduceLT, List.cons_append, List.nil_append, true_or, or_true, or_false, false_or, H.k, q0, q1, H.r16, H.k9, nI_ltI, nI_leI, nI_eq, nI_clamp, zIn_nI, bI_0, nI_add, nI_mul, nI_or, nI_and, nI_shl1, nI_bit, ↓pk_rem, pk_div, Nat.lt_irrefl, Nat.not_lt_zero, reduceCtorEq, nI_sub, hj, j5, b0, b1, b2, b3, c0, c1, c2, c3, sK_setI, sR_setI, sL_setI, i9, if_true, if_false, show ∀ k, oI (some k) = nI k from fun _ => rfl, show oI none = -nI 1 from rfl]) (g, j2) (fun c k hc hk => hx c k (by omega) hk)
    obtain ⟨g', y2⟩ := y
    refine ⟨(g', .int (nI w), y2), fun c k hc hk => k1 c k (by rw [Nat.succ_mul] at hc; exact hc) hk, ?_⟩
    funext K
    have q : ∀ g, ROffN (upA (flS σ a w h) (a + 9) g) a (A.flr w h) := fun g => H1.keep (fun _ => rfl) (fun j => by rw [sI_upA, if_neg (by omega)]) (fun _ => rfl)
    have H := q g
    have q1 := H.i1
    rw [flr_high] at q1
    rw [L_41_49, zt_41_49]
    simp (disch := omega) only [↓e_iconst0, ↓e_iconst1, ↓e_bipush0, ↓e_bipush1, ↓e_sipush0, ↓e_sipush1, ↓e_ldc0, ↓e_ldc1, ↓e_ldc_w0, ↓e_ldc_w1, ↓e_ldc2, ↓e_lconst0, ↓e_lconst1, ↓e_ldc2_w0, ↓e_ldc2_w1, ↓e_iload, ↓e_iload_n, ↓e_istore, ↓e_istore_n, ↓e_lload, ↓e_lload_n, ↓e_lstore, ↓e_lstore_n, ↓e_aload, ↓e_aload_n, ↓e_astore, ↓e_astore_n, ↓e_iinc0, ↓e_iinc1, ↓e_iadd, ↓e_isub, ↓e_imul, ↓e_iand, ↓e_ior, ↓e_ixor, ↓e_ishl, ↓e_ishr, ↓e_iushr, ↓e_ladd, ↓e_lsub, ↓e_lmul, ↓e_land, ↓e_lor, ↓e_idiv, ↓e_irem, ↓e_ldiv, ↓e_lrem, ↓e_lshl, ↓e_lcmp, ↓e_i2l, ↓e_l2i, ↓e_i2b, ↓e_i2s, ↓e_dup_int, ↓e_pop_int, ↓e_dup_ref, ↓e_pop_ref, ↓e_dup2, ↓e_goto, ↓e_nop, ↓e_ifCond_eq, ↓e_if_icmp_eq, ↓e_ifCond_ne, ↓e_if_icmp_ne, ↓e_ifCond_lt, ↓e_if_icmp_lt, ↓e_ifCond_ge, ↓e_if_icmp_ge, ↓e_ifCond_gt, ↓e_if_icmp_gt, ↓e_ifCond_le, ↓e_if_icmp_le, ↓e_tab, ↓e_look, ↓e_get0, ↓e_get1, ↓e_get2, ↓e_get3, ↓e_put0, ↓e_put1, ↓e_put2, ↓e_put3, ↓e_iaload, ↓e_laload, ↓e_baload, ↓e_aaload, ↓e_iastore, ↓e_lastore, ↓e_bastore, ↓e_aastore, ↓e_alen, ↓e_new, ↓e_newarray, ↓e_anewarray, ↓e_objinit, ↓e_virt1, ↓e_virt2, ↓e_virt3, ↓e_virt4, ↓e_virt5, ↓e_virt6, ↓e_virt7, ↓e_stat0, ↓e_stat1, ↓e_stat2, ↓e_stat3, ↓e_stat4, ↓e_stat5, ↓e_stat6, ↓e_stat7, ↓e_spec1, ↓e_spec2, ↓e_spec3, ↓e_spec4, ↓e_spec5, ↓e_strlen, ↓e_charAt, ↓e_copy, ↓e_iret0, ↓e_iret1, ↓e_lret, ↓e_aret, ↓e_vret, zIsI_int, zIsL_long, zIsA_ref, zInt_int, true_and, and_true, ↓reduceIte, zGet, zSet, zSet2, zEnt, zWid, Value.category, List.map_cons, List.map_nil, List.sum_cons, List.sum_nil, List.replicate, Option.toList, Nat.reduceAdd, Nat.reduceSub, Nat.reduceMul, Nat.reduceLeDiff, Nat.reduceEqDiff, Nat.reduceLT, List.cons_append, List.nil_append, true_or, or_true, or_false, false_or, H.k, q1, nI_ltI, nI_leI, nI_eq, nI_clamp, zIn_nI, bI_0, nI_add, nI_mul, nI_or, nI_and, nI_shl1, nI_bit, ↓pk_rem, pk_div, Nat.lt_irrefl, Nat.not_lt_zero, reduceCtorEq, hr, r4]
    refine Eq.trans (congrFun e2 K) ?_
    have H := q g'
    have q0 := H.i0
    rw [flr_wide] at q0
    rw [L_41_60, zt_41_60]
    simp (disch := omega) only [L_41_196, zt_41_196, ↓e_iconst0, ↓e_iconst1, ↓e_bipush0, ↓e_bipush1, ↓e_sipush0, ↓e_sipush1, ↓e_ldc0, ↓e_ldc1, ↓e_ldc_w0, ↓e_ldc_w1, ↓e_ldc2, ↓e_lconst0, ↓e_lconst1, ↓e_ldc2_w0, ↓e_ldc2_w1, ↓e_iload, ↓e_iload_n, ↓e_istore, ↓e_istore_n, ↓e_lload, ↓e_lload_n, ↓e_lstore, ↓e_lstore_n, ↓e_aload, ↓e_aload_n, ↓e_astore, ↓e_astore_n, ↓e_iinc0, ↓e_iinc1, ↓e_iadd, ↓e_isub, ↓e_imul, ↓e_iand, ↓e_ior, ↓e_ixor, ↓e_ishl, ↓e_ishr, ↓e_iushr, ↓e_ladd, ↓e_lsub, ↓e_lmul, ↓e_land, ↓e_lor, ↓e_idiv, ↓e_irem, ↓e_ldiv, ↓e_lrem, ↓e_lshl, ↓e_lcmp, ↓e_i2l, ↓e_l2i, ↓e_i2b, ↓e_i2s, ↓e_dup_int, ↓e_pop_int, ↓e_dup_ref, ↓e_pop_ref, ↓e_dup2, ↓e_goto, ↓e_nop, ↓e_ifCond_eq, ↓e_if_icmp_eq, ↓e_ifCond_ne, ↓e_if_icmp_ne, ↓e_ifCond_lt, ↓e_if_icmp_lt, ↓e_ifCond_ge, ↓e_if_icmp_ge, ↓e_ifCond_gt, ↓e_if_icmp_gt, ↓e_ifCond_le, ↓e_if_icmp_le, ↓e_tab, ↓e_look, ↓e_get0, ↓e_get1, ↓e_get2, ↓e_get3, ↓e_put0, ↓e_put1, ↓e_put2, ↓e_put3, ↓e_iaload, ↓e_laload, ↓e_baload, ↓e_aaload, ↓e_iastore, ↓e_lastore, ↓e_bastore, ↓e_aastore, ↓e_alen, ↓e_new, ↓e_newarray, ↓e_anewarray, ↓e_objinit, ↓e_virt1, ↓e_virt2, ↓e_virt3, ↓e_virt4, ↓e_virt5, ↓e_virt6, ↓e_virt7, ↓e_stat0, ↓e_stat1, ↓e_stat2, ↓e_stat3, ↓e_stat4, ↓e_stat5, ↓e_stat6, ↓e_stat7, ↓e_spec1, ↓e_spec2, ↓e_spec3, ↓e_spec4, ↓e_spec5, ↓e_strlen, ↓e_charAt, ↓e_copy, ↓e_iret0, ↓e_iret1, ↓e_lret, ↓e_aret, ↓e_vret, zIsI_int, zIsL_long, zIsA_ref, zInt_int, true_and, and_true, ↓reduceIte, zGet, zSet, zSet2, zEnt, zWid, Value.category, List.map_cons, List.map_nil, List.sum_cons, List.sum_nil, List.replicate, Option.toList, Nat.reduceAdd, Nat.reduceSub, Nat.reduceMul, Nat.reduceLeDiff, Nat.reduceEqDiff, Nat.reduceLT, List.cons_append, List.nil_append, true_or, or_true, or_false, false_or, H.k, q0, nI_ltI, nI_leI, nI_eq, nI_clamp, zIn_nI, bI_0, nI_add, nI_mul, nI_or, nI_and, nI_shl1, nI_bit, ↓pk_rem, pk_div, Nat.lt_irrefl, Nat.not_lt_zero, reduceCtorEq]) (fun j => if j < 80 then -nI 1 else sI (flS σ a w h) (a + 9) j, .null, .null) (fun c k hc hk => by omega)
  obtain ⟨g, j1, j2⟩ := x
  refine ⟨g, fun c k hc hk => i1 c k (by rw [Nat.mul_comm]; exact hc) hk, fun K => ?_⟩
  have q : ∀ g, ROffN (upA (flS σ a w h) (a + 9) g) a (A.flr w h) := fun g => H1.keep (fun _ => rfl) (fun j => by rw [sI_upA, if_neg (by omega)]) (fun _ => rfl)
  have k9 : sK (flS σ a w h) (a + 9) = (1, 80) := H1.k9
  rw [E_41]
  have x0 : sI (setI (setI σ a 0 (nI w)) a 1 (nI h)) a 0 = nI w := by simp [sI_setI]
  have x1 : sI (setI (setI σ a 0 (nI w)) a 1 (nI h)) a 1 = nI h := by simp [sI_setI]
  have fe : setI (setI (setI σ a 0 (nI w)) a 1 (nI h)) a 2 (nI (w * h)) = flS σ a w h := rfl
  have r16 : sR (flS σ a w h) a 16 = a + 9 := H1.r16
  have hk : sK σ a = (0, 5) := H1.k
  have mw : max 1 (min w 5) = w := by omega
  have mh : max 1 (min h 4) = h := by omega
  simp (disch := omega) only [L_41_0, zt_41_0, ↓e_iconst0, ↓e_iconst1, ↓e_bipush0, ↓e_bipush1, ↓e_sipush0, ↓e_sipush1, ↓e_ldc0, ↓e_ldc1, ↓e_ldc_w0, ↓e_ldc_w1, ↓e_ldc2, ↓e_lconst0, ↓e_lconst1, ↓e_ldc2_w0, ↓e_ldc2_w1, ↓e_iload, ↓e_iload_n, ↓e_istore, ↓e_istore_n, ↓e_lload, ↓e_lload_n, ↓e_lstore, ↓e_lstore_n, ↓e_aload, ↓e_aload_n, ↓e_astore, ↓e_astore_n, ↓e_iinc0, ↓e_iinc1, ↓e_iadd, ↓e_isub, ↓e_imul, ↓e_iand, ↓e_ior, ↓e_ixor, ↓e_ishl, ↓e_ishr, ↓e_iushr, ↓e_ladd, ↓e_lsub, ↓e_lmul, ↓e_land, ↓e_lor, ↓e_idiv, ↓e_irem, ↓e_ldiv, ↓e_lrem, ↓e_lshl, ↓e_lcmp, ↓e_i2l, ↓e_l2i, ↓e_i2b, ↓e_i2s, ↓e_dup_int, ↓e_pop_int, ↓e_dup_ref, ↓e_pop_ref, ↓e_dup2, ↓e_goto, ↓e_nop, ↓e_ifCond_eq, ↓e_if_icmp_eq, ↓e_ifCond_ne, ↓e_if_icmp_ne, ↓e_ifCond_lt, ↓e_if_icmp_lt, ↓e_ifCond_ge, ↓e_if_icmp_ge, ↓e_ifCond_gt, ↓e_if_icmp_gt, ↓e_ifCond_le, ↓e_if_icmp_le, ↓e_tab, ↓e_look, ↓e_get0, ↓e_get1, ↓e_get2, ↓e_get3, ↓e_put0, ↓e_put1, ↓e_put2, ↓e_put3, ↓e_iaload, ↓e_laload, ↓e_baload, ↓e_aaload, ↓e_iastore, ↓e_lastore, ↓e_bastore, ↓e_aastore, ↓e_alen, ↓e_new, ↓e_newarray, ↓e_anewarray, ↓e_objinit, ↓e_virt1, ↓e_virt2, ↓e_virt3, ↓e_virt4, ↓e_virt5, ↓e_virt6, ↓e_virt7, ↓e_stat0, ↓e_stat1, ↓e_stat2, ↓e_stat3, ↓e_stat4, ↓e_stat5, ↓e_stat6, ↓e_stat7, ↓e_spec1, ↓e_spec2, ↓e_spec3, ↓e_spec4, ↓e_spec5, ↓e_strlen, ↓e_charAt, ↓e_copy, ↓e_iret0, ↓e_iret1, ↓e_lret, ↓e_aret, ↓e_vret, zIsI_int, zIsL_long, zIsA_ref, zInt_int, true_and, and_true, ↓reduceIte, zGet, zSet, zSet2, zEnt, zWid, Value.category, List.map_cons, List.map_nil, List.sum_cons, List.sum_nil, List.replicate, Option.toList, Nat.reduceAdd, Nat.reduceSub, Nat.reduceMul, Nat.reduceLeDiff, Nat.reduceEqDiff, Nat.reduceLT, List.cons_append, List.nil_append, true_or, or_true, or_false, false_or, hk, nI_ltI, nI_leI, nI_eq, nI_clamp, zIn_nI, bI_0, nI_add, nI_mul, nI_or, nI_and, nI_shl1, nI_bit, ↓pk_rem, pk_div, Nat.lt_irrefl, Nat.not_lt_zero, reduceCtorEq, ↓c_min, ↓c_max, mw, mh, sK_setI, sR_setI, sL_setI, x0, x1, fe, H1.k, r16, ↓c_fillI k9]
  refine Eq.trans (congrFun e1 K) ?_
  have H := q g
  have q1 := H.i1
  rw [flr_high] at q1
  rw [L_41_49, zt_41_49]
  simp (disch := omega) only [L_41_202, zt_41_202, ↓e_iconst0, ↓e_iconst1, ↓e_bipush0, ↓e_bipush1, ↓e_sipush0, ↓e_sipush1, ↓e_ldc0, ↓e_ldc1, ↓e_ldc_w0, ↓e_ldc_w1, ↓e_ldc2, ↓e_lconst0, ↓e_lconst1, ↓e_ldc2_w0, ↓e_ldc2_w1, ↓e_iload, ↓e_iload_n, ↓e_istore, ↓e_istore_n, ↓e_lload, ↓e_lload_n, ↓e_lstore, ↓e_lstore_n, ↓e_aload, ↓e_aload_n, ↓e_astore, ↓e_astore_n, ↓e_iinc0, ↓e_iinc1, ↓e_iadd, ↓e_isub, ↓e_imul, ↓e_iand, ↓e_ior, ↓e_ixor, ↓e_ishl, ↓e_ishr, ↓e_iushr, ↓e_ladd, ↓e_lsub, ↓e_lmul, ↓e_land, ↓e_lor, ↓e_idiv, ↓e_irem, ↓e_ldiv, ↓e_lrem, ↓e_lshl, ↓e_lcmp, ↓e_i2l, ↓e_l2i, ↓e_i2b, ↓e_i2s, ↓e_dup_int, ↓e_pop_int, ↓e_dup_ref, ↓e_pop_ref, ↓e_dup2, ↓e_goto, ↓e_nop, ↓e_ifCond_eq, ↓e_if_icmp_eq, ↓e_ifCond_ne, ↓e_if_icmp_ne, ↓e_ifCond_lt, ↓e_if_icmp_lt, ↓e_ifCond_ge, ↓e_if_icmp_ge, ↓e_ifCond_gt, ↓e_if_icmp_gt, ↓e_ifCond_le, ↓e_if_icmp_le, ↓e_tab, ↓e_look, ↓e_get0, ↓e_get1, ↓e_get2, ↓e_get3, ↓e_put0, ↓e_put1, ↓e_put2, ↓e_put3, ↓e_iaload, ↓e_laload, ↓e_baload, ↓e_aaload, ↓e_iastore, ↓e_lastore, ↓e_bastore, ↓e_aastore, ↓e_alen, ↓e_new, ↓e_newarray, ↓e_anewarray, ↓e_objinit, ↓e_virt1, ↓e_virt2, ↓e_virt3, ↓e_virt4, ↓e_virt5, ↓e_virt6, ↓e_virt7, ↓e_stat0, ↓e_stat1, ↓e_stat2, ↓e_stat3, ↓e_stat4, ↓e_stat5, ↓e_stat6, ↓e_stat7, ↓e_spec1, ↓e_spec2, ↓e_spec3, ↓e_spec4, ↓e_spec5, ↓e_strlen, ↓e_charAt, ↓e_copy, ↓e_iret0, ↓e_iret1, ↓e_lret, ↓e_aret, ↓e_vret, zIsI_int, zIsL_long, zIsA_ref, zInt_int, true_and, and_true, ↓reduceIte, zGet, zSet, zSet2, zEnt, zWid, Value.category, List.map_cons, List.map_nil, List.sum_cons, List.sum_nil, List.replicate, Option.toList, Nat.reduceAdd, Nat.reduceSub, Nat.reduceMul, Nat.reduceLeDiff, Nat.reduceEqDiff, Nat.reduceLT, List.cons_append, List.nil_append, true_or, or_true, or_false, false_or, H.k, q1, nI_ltI, nI_leI, nI_eq, nI_clamp, zIn_nI, bI_0, nI_add, nI_mul, nI_or, nI_and, nI_shl1, nI_bit, ↓pk_rem, pk_div, Nat.lt_irrefl, Nat.not_lt_zero, reduceCtorEq]
theorem c_layFloor (C : ROffC σ a A) {w h : Nat} (w1 : 1 ≤ w) (w5 : w ≤ 5) (h1 : 1 ≤ h) (h4 : h ≤ 4) :
   ∃ τ, Ag (fun c => a ≤ c ∧ c ≤ a + 11) σ τ ∧ ROffC τ a (A.flr w h) ∧ ∀ K, zC (d + 2) 41 [.ref a, .int (nI w), .int (nI h)] σ K = K none τ := by
  obtain ⟨g, s, e⟩ := n_layFloor (d := d) (flS_N C.n w h) w1 w5 h1 h4
  have f0 : Ag (fun c => a ≤ c ∧ c ≤ a + 11) σ (flS σ a w h) := by
    have y : a ≤ a ∧ a ≤ a + 11 := ⟨by omega, by omega⟩
    exact ((Ag.rf.setI y).setI y).setI y
  have y : ∀ k j, k ≠ 0 → k ≠ 9 → sI (upA (flS σ a w h) (a + 9) g) (a + k) j = sI σ (a + k) j := fun k j hk h9 => by
    rw [sI_upA, if_neg (by omega)]
    unfold flS
    rw [sI_setI, if_neg (by omega), sI_setI, if_neg (by omega), sI_setI, if_neg (by omega)]
  refine ⟨_, f0.upA ⟨by omega, by omega⟩, ROffC.mk ((flS_N C.n w h).keep (fun _ => rfl) (fun j => by rw [sI_upA, if_neg (by omega)]) (fun _ => rfl)) ?_ C.a2 ?_ ?_ C.a5 ?_ C.a7 ?_ ?_, e⟩
  · exact fun t h => (y 1 _ (by omega) (by omega)).trans (C.a1 t h)
  · exact fun t h => (y 3 _ (by omega) (by omega)).trans (C.a3 t h)
  · exact fun t h => (y 4 _ (by omega) (by omega)).trans (C.a4 t h)
  · exact fun t h => (y 6 _ (by omega) (by omega)).trans (C.a6 t h)
  · exact fun t h => (y 8 _ (by omega) (by omega)).trans (C.a8 t h)
  · intro c k hc hk
    rw [sI_upA, if_pos rfl]
    exact s c k hc hk
/-! the office as clear leaves it -/
def Ofc.nil : Ofc := (fun j => if j = 0 then 3 else if j = 1 then 2 else if j = 3 then 3 else if j = 4 then 8 else 0, fun _ => 0, fun _ => 0, fun _ => none, fun _ => 0, fun _ _ => [])
theorem nil_who (c : Nat) : Ofc.nil.who c = none := by
  unfold Ofc.who
  rw [List.find?_eq_none]
  intro x _
  show ¬ ((none : Option Nat) == some c) = true
  simp
theorem nil_flr : Ofc.nil.flr 3 2 = Ofc.nil := by
  refine Prod.ext ?_ rfl
  funext j
  show (if j = 1 then 2 else if j = 0 then 3 else Ofc.nil.1 j) = Ofc.nil.1 j
  by_cases h1 : j = 1
  · rw [if_pos h1, h1]; rfl
  · by_cases h0 : j = 0
    · rw [if_neg h1, if_pos h0, h0]; rfl
    · rw [if_neg h1, if_neg h0]
theorem nil_nt : Ofc.nil.nt = 0 := rfl
theorem nil_np : Ofc.nil.np = 0 := rfl
theorem nil_nc : Ofc.nil.nc = 0 := rfl
theorem nil_ok : OfcOk Ofc.nil :=
  OfcOk.mk (A := Ofc.nil) (by decide) (by decide) (by decide) (by decide) (by decide) (by decide) (by decide) (by decide) (by decide) (by decide) (fun t h => by rw [nil_nt] at h; omega) (fun t h => by rw [nil_np] at h; omega) (fun _ _ => rfl) (fun p c h => by cases h) (fun p q c h => by cases h) (fun t h => by rw [nil_nc] at h; omega)
/-- σ before clear lays the floor -/
def clS (σ : MS) (a : Nat) : MS := upA (upA (upA (setI (setI (setI (setI (setI σ a 3 (nI 3)) a 4 (nI 8)) a 5 (nI 0)) a 6 (nI 0)) a 7 (nI 0)) (a + 8) (fun j => if j < 20 then -nI 1 else sI σ (a + 8) j)) (a + 4) (fun j => if j < 8 then -nI 1 else sI σ (a + 4) j)) (a + 10) (fun j => if j < 64 then nI 0 else sI σ (a + 10) j)
theorem c_clear (G : ROffK σ a) : ∃ τ, Ag (fun c => a ≤ c ∧ c ≤ a + 11) σ τ ∧ ROff τ a Ofc.nil ∧ ∀ K, zC (d + 3) 39 [.ref a] σ K = K none τ := by
  have y : a ≤ a ∧ a ≤ a + 11 := ⟨by omega, by omega⟩
  have f0 : Ag (fun c => a ≤ c ∧ c ≤ a + 11) σ (clS σ a) := by
    refine Ag.upA (Ag.upA (Ag.upA ?_ ⟨by omega, by omega⟩) ⟨by omega, by omega⟩) ⟨by omega, by omega⟩
    exact ((((Ag.rf.setI y).setI y).setI y).setI y).setI y
  have i0 : ∀ j, sI (clS σ a) a j = sI (setI (setI (setI (setI (setI σ a 3 (nI 3)) a 4 (nI 8)) a 5 (nI 0)) a 6 (nI 0)) a 7 (nI 0)) a j := fun j => by
    unfold clS
    rw [sI_upA, if_neg (by omega), sI_upA, if_neg (by omega), sI_upA, if_neg (by omega)]
  have i3 : ∀ j, 3 ≤ j → sI (flS (clS σ a) a 3 2) a j = sI (clS σ a) a j := fun j hj => by
    unfold flS
    rw [sI_setI, if_neg (by omega), sI_setI, if_neg (by omega), sI_setI, if_neg (by omega)]
  have N : ROffN (flS (clS σ a) a 3 2) a (Ofc.nil.flr 3 2) := by
    rw [nil_flr]
    refine ROffN.mk G.k ?_ ?_ ?_ ?_ ?_ ?_ ?_ ?_ G.r8 G.r9 G.r10 G.r11 G.r12 G.r13 G.r14 G.r15 G.r16 G.r17 G.r18 G.k1 G.k2 G.k3 G.k4 G.k5 G.k6 G.k7 G.k8 G.k9 G.k10 G.k11
    · unfold flS; simp [sI_setI]; rfl
    · unfold flS; simp [sI_setI]; rfl
    · unfold flS; simp [sI_setI]; rfl
    · rw [i3 _ (by omega), i0]; simp [sI_setI]; rfl
    · rw [i3 _ (by omega), i0]; simp [sI_setI]; rfl
    · rw [i3 _ (by omega), i0]; simp [sI_setI]; rfl
    · rw [i3 _ (by omega), i0]; simp [sI_setI]; rfl
    · rw [i3 _ (by omega), i0]; simp [sI_setI]; rfl
  obtain ⟨g, s, e⟩ := n_layFloor (d := d) N (by decide) (by decide) (by decide) (by decide)
  rw [nil_flr] at N s
  have f1 : Ag (fun c => a ≤ c ∧ c ≤ a + 11) σ (flS (clS σ a) a 3 2) := ((f0.setI y).setI y).setI y
  have q : ∀ k j, k ≠ 0 → k ≠ 9 → sI (upA (flS (clS σ a) a 3 2) (a + 9) g) (a + k) j = sI (clS σ a) (a + k) j := fun k j hk h9 => by
    rw [sI_upA, if_neg (by omega)]
    unfold flS
    rw [sI_setI, if_neg (by omega), sI_setI, if_neg (by omega), sI_setI, if_neg (by omega)]
  have N2 : ROffN (upA (flS (clS σ a) a 3 2) (a + 9) g) a Ofc.nil := N.keep (fun _ => rfl) (fun j => by rw [sI_upA, if_neg (by omega)]) (fun _ => rfl)
  have z1 : ∀ k, ¬ k < Ofc.nil.nt := fun k => by rw [nil_nt]; omega
  have z2 : ∀ k, ¬ k < Ofc.nil.np := fun k => by rw [nil_np]; omega
  have z3 : ∀ k, ¬ k < Ofc.nil.nc := fun k => by rw [nil_nc]; omega
  refine ⟨upA (flS (clS σ a) a 3 2) (a + 9) g, f1.upA ⟨by omega, by omega⟩, (ROffC.mk (A := Ofc.nil) N2 (fun t h => absurd h (z1 t)) (fun t h => absurd h (z1 t)) (fun t h => absurd h (z2 t)) ?_ (fun t h => absurd h (z2 t)) (fun t h => absurd h (z3 t)) (fun t h => absurd h (z3 t)) ?_ ?_).full (fun t q h => absurd h (z2 t)), fun K => ?_⟩
  · intro p hp
    rw [q 4 _ (by omega) (by omega)]
    unfold clS
    rw [sI_upA, if_neg (by omega), sI_upA, if_pos rfl, if_pos hp]
    rfl
  · intro p hp
    rw [q 8 _ (by omega) (by omega), nil_who]
    unfold clS
    rw [sI_upA, if_neg (by omega), sI_upA, if_neg (by omega), sI_upA, if_pos rfl, if_pos hp]
    rfl
  · intro c k hc hk
    rw [sI_upA, if_pos rfl]
    exact s c k hc hk
  · have k8 := G.k8
    have k4 := G.k4
    have k10 := G.k10
    rw [E_39]
    generalize hs : setI (setI (setI (setI (setI σ a 3 (nI 3)) a 4 (nI 8)) a 5 (nI 0)) a 6 (nI 0)) a 7 (nI 0) = ρ
    have a8 : ∀ j, sI ρ (a + 8) j = sI σ (a + 8) j := fun j => by rw [← hs]; simp [sI_setI]
    have a4 : ∀ j, sI ρ (a + 4) j = sI σ (a + 4) j := fun j => by rw [← hs]; simp [sI_setI]
    have a10 : ∀ j, sI ρ (a + 10) j = sI σ (a + 10) j := fun j => by rw [← hs]; simp [sI_setI]
    have G2 : ROffK ρ a := by rw [← hs]; exact G.keep (fun _ => rfl) (fun _ => rfl)
    have ce : clS σ a = upA (upA (upA ρ (a + 8) (fun j => if j < 20 then -nI 1 else sI σ (a + 8) j)) (a + 4) (fun j => if j < 8 then -nI 1 else sI σ (a + 4) j)) (a + 10) (fun j => if j < 64 then nI 0 else sI σ (a + 10) j) := by rw [← hs]; rfl
    have u4 : ∀ j, sI (upA ρ (a + 8) (fun j => if j < 20 then -nI 1 else sI σ (a + 8) j)) (a + 4) j = sI σ (a + 4) j := fun j => by rw [sI_upA, if_neg (by omega), a4]
    have u10 : ∀ j, sI (upA (upA ρ (a + 8) (fun j => if j < 20 then -nI 1 else sI σ (a + 8) j)) (a + 4) (fun j => if j < 8 then -nI 1 else sI σ (a + 4) j)) (a + 10) j = sI σ (a + 10) j := fun j => by rw [sI_upA, if_neg (by omega), sI_upA, if_neg (by omega), a10]
    have v8 : sK ρ (a + 8) = (1, 20) := G2.k8
    have v4 : ∀ g, sK (upA ρ (a + 8) g) (a + 4) = (1, 8) := fun _ => G2.k4
    have v10 : ∀ g h, sK (upA (upA ρ (a + 8) g) (a + 4) h) (a + 10) = (1, 64) := fun _ _ => G2.k10
    rw [ce] at e ⊢
    have gk : sK σ a = (0, 5) := G.k
    simp (disch := omega) only [L_39_0, zt_39_0, ↓e_iconst0, ↓e_iconst1, ↓e_bipush0, ↓e_bipush1, ↓e_sipush0, ↓e_sipush1, ↓e_ldc0, ↓e_ldc1, ↓e_ldc_w0, ↓e_ldc_w1, ↓e_ldc2, ↓e_lconst0, ↓e_lconst1, ↓e_ldc2_w0, ↓e_ldc2_w1, ↓e_iload, ↓e_iload_n, ↓e_istore, ↓e_istore_n, ↓e_lload, ↓e_lload_n, ↓e_lstore, ↓e_lstore_n, ↓e_aload, ↓e_aload_n, ↓e_astore, ↓e_astore_n, ↓e_iinc0, ↓e_iinc1, ↓e_iadd, ↓e_isub, ↓e_imul, ↓e_iand, ↓e_ior, ↓e_ixor, ↓e_ishl, ↓e_ishr, ↓e_iushr, ↓e_ladd, ↓e_lsub, ↓e_lmul, ↓e_land, ↓e_lor, ↓e_idiv, ↓e_irem, ↓e_ldiv, ↓e_lrem, ↓e_lshl, ↓e_lcmp, ↓e_i2l, ↓e_l2i, ↓e_i2b, ↓e_i2s, ↓e_dup_int, ↓e_pop_int, ↓e_dup_ref, ↓e_pop_ref, ↓e_dup2, ↓e_goto, ↓e_nop, ↓e_ifCond_eq, ↓e_if_icmp_eq, ↓e_ifCond_ne, ↓e_if_icmp_ne, ↓e_ifCond_lt, ↓e_if_icmp_lt, ↓e_ifCond_ge, ↓e_if_icmp_ge, ↓e_ifCond_gt, ↓e_if_icmp_gt, ↓e_ifCond_le, ↓e_if_icmp_le, ↓e_tab, ↓e_look, ↓e_get0, ↓e_get1, ↓e_get2, ↓e_get3, ↓e_put0, ↓e_put1, ↓e_put2, ↓e_put3, ↓e_iaload, ↓e_laload, ↓e_baload, ↓e_aaload, ↓e_iastore, ↓e_lastore, ↓e_bastore, ↓e_aastore, ↓e_alen, ↓e_new, ↓e_newarray, ↓e_anewarray, ↓e_objinit, ↓e_virt1, ↓e_virt2, ↓e_virt3, ↓e_virt4, ↓e_virt5, ↓e_virt6, ↓e_virt7, ↓e_stat0, ↓e_stat1, ↓e_stat2, ↓e_stat3, ↓e_stat4, ↓e_stat5, ↓e_stat6, ↓e_stat7, ↓e_spec1, ↓e_spec2, ↓e_spec3, ↓e_spec4, ↓e_spec5, ↓e_strlen, ↓e_charAt, ↓e_copy, ↓e_iret0, ↓e_iret1, ↓e_lret, ↓e_aret, ↓e_vret, zIsI_int, zIsL_long, zIsA_ref, zInt_int, true_and, and_true, ↓reduceIte, zGet, zSet, zSet2, zEnt, zWid, Value.category, List.map_cons, List.map_nil, List.sum_cons, List.sum_nil, List.replicate, Option.toList, Nat.reduceAdd, Nat.reduceSub, Nat.reduceMul, Nat.reduceLeDiff, Nat.reduceEqDiff, Nat.reduceLT, List.cons_append, List.nil_append, true_or, or_true, or_false, false_or, nI_ltI, nI_leI, nI_eq, nI_clamp, zIn_nI, bI_0, nI_add, nI_mul, nI_or, nI_and, nI_shl1, nI_bit, ↓pk_rem, pk_div, Nat.lt_irrefl, Nat.not_lt_zero, reduceCtorEq, sK_setI, sR_setI, sL_setI, hs, G2.k, G2.r15, ↓c_fillI v8, a8, sK_upA, sR_upA, G2.r11, ↓c_fillI (v4 _), u4, G2.r17, ↓c_fillI (v10 _ _), u10, gk, ↓e]
end FLO
