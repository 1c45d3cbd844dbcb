/-! WEIGHED, the class -/
def RWk (σ : MS) : Prop := (sK σ 115 = (0, 9)) ∧ (sR σ 115 3 = 116) ∧ (sR σ 115 4 = 117) ∧ (sR σ 115 5 = 118) ∧ (sR σ 115 6 = 119) ∧ (sK σ 116 = (1, 8)) ∧ (sK σ 117 = (1, 8)) ∧ (sK σ 118 = (1, 20)) ∧ (sK σ 119 = (1, 160))
theorem RWk.k {σ : MS} (H : RWk σ) : sK σ 115 = (0, 9) := H.1
theorem RWk.r3 {σ : MS} (H : RWk σ) : sR σ 115 3 = 116 := H.2.1
theorem RWk.r4 {σ : MS} (H : RWk σ) : sR σ 115 4 = 117 := H.2.2.1
theorem RWk.r5 {σ : MS} (H : RWk σ) : sR σ 115 5 = 118 := H.2.2.2.1
theorem RWk.r6 {σ : MS} (H : RWk σ) : sR σ 115 6 = 119 := H.2.2.2.2.1
theorem RWk.k1 {σ : MS} (H : RWk σ) : sK σ 116 = (1, 8) := H.2.2.2.2.2.1
theorem RWk.k2 {σ : MS} (H : RWk σ) : sK σ 117 = (1, 8) := H.2.2.2.2.2.2.1
theorem RWk.k3 {σ : MS} (H : RWk σ) : sK σ 118 = (1, 20) := H.2.2.2.2.2.2.2.1
theorem RWk.k4 {σ : MS} (H : RWk σ) : sK σ 119 = (1, 160) := H.2.2.2.2.2.2.2.2
theorem RWk.mk {σ : MS} (k : sK σ 115 = (0, 9)) (r3 : sR σ 115 3 = 116) (r4 : sR σ 115 4 = 117) (r5 : sR σ 115 5 = 118) (r6 : sR σ 115 6 = 119) (k1 : sK σ 116 = (1, 8)) (k2 : sK σ 117 = (1, 8)) (k3 : sK σ 118 = (1, 20)) (k4 : sK σ 119 = (1, 160)) : RWk σ := ⟨k, r3, r4, r5, r6, k1, k2, k3, k4⟩
abbrev Lpp : Type := List (Nat × Nat)
def RWs (σ : MS) (nt : Nat) (L : Lpp) (v : Nat → Nat) : Prop := (RWk σ) ∧ (sI σ 115 1 = nI nt) ∧ (sI σ 115 2 = nI L.length) ∧ (∀ j t, j < L.length → t < nt → sI σ 119 (j * 8 + t) = iI (sgT (L.getD j (0, 0)) t)) ∧ (∀ j, j < L.length → sI σ 118 j = iI (sI3 v (L.getD j (0, 0)) nt))
theorem RWs.k {σ : MS} {nt : Nat} {L : Lpp} {v : Nat → Nat} (H : RWs σ nt L v) : RWk σ := H.1
theorem RWs.n {σ : MS} {nt : Nat} {L : Lpp} {v : Nat → Nat} (H : RWs σ nt L v) : sI σ 115 1 = nI nt := H.2.1
theorem RWs.m {σ : MS} {nt : Nat} {L : Lpp} {v : Nat → Nat} (H : RWs σ nt L v) : sI σ 115 2 = nI L.length := H.2.2.1
theorem RWs.sg {σ : MS} {nt : Nat} {L : Lpp} {v : Nat → Nat} (H : RWs σ nt L v) : ∀ j t, j < L.length → t < nt → sI σ 119 (j * 8 + t) = iI (sgT (L.getD j (0, 0)) t) := H.2.2.2.1
theorem RWs.su {σ : MS} {nt : Nat} {L : Lpp} {v : Nat → Nat} (H : RWs σ nt L v) : ∀ j, j < L.length → sI σ 118 j = iI (sI3 v (L.getD j (0, 0)) nt) := H.2.2.2.2
theorem RWs.mk {σ : MS} {nt : Nat} {L : Lpp} {v : Nat → Nat} (k : RWk σ) (n : sI σ 115 1 = nI nt) (m : sI σ 115 2 = nI L.length) (sg : ∀ j t, j < L.length → t < nt → sI σ 119 (j * 8 + t) = iI (sgT (L.getD j (0, 0)) t)) (su : ∀ j, j < L.length → sI σ 118 j = iI (sI3 v (L.getD j (0, 0)) nt)) : RWs σ nt L v := ⟨k, n, m, sg, su⟩
section WGX
variable {d : Nat} {σ τ ρ : MS} {a nt : Nat} {A : Ofc} {L : List (Nat × Nat)} {v : Nat → Nat} {K : Option Value → MS → Prop}
theorem RWk.ag {p : Nat → Prop} (W : RWk σ) (f : Ag p σ τ) : RWk τ := by
  have y := f.Rx (b := 115) (by unfold rX; omega)
  exact RWk.mk ((f.K _).trans W.k) ((y _).trans W.r3) ((y _).trans W.r4) ((y _).trans W.r5) ((y _).trans W.r6) ((f.K _).trans W.k1) ((f.K _).trans W.k2) ((f.K _).trans W.k3) ((f.K _).trans W.k4)
theorem iI_mul (x y : Int) : iI x * iI y = iI (x * y) := (Int32.ofInt_mul x y).symm
theorem bI_sg (w g : Bool) : bI w - bI g = iI ((if w = true then 1 else 0) - (if g = true then 1 else 0)) := by cases w <;> cases g <;> decide
theorem RWs.ag {p : Nat → Prop} (W : RWs σ nt L v) (f : Ag p σ τ) (h5 : ∀ j, j = 1 ∨ j = 2 → sI τ 115 j = sI σ 115 j) (h9 : ¬ p 119) (h8 : ¬ p 118) : RWs τ nt L v :=
  RWs.mk (W.k.ag f) ((h5 _ (.inl rfl)).trans W.n) ((h5 _ (.inr rfl)).trans W.m) (fun j t hj ht => (f.I h9 _).trans (W.sg j t hj ht)) (fun j hj => (f.I h8 _).trans (W.su j hj))
theorem c_addThree (W : RWs σ nt L (fun _ => 1)) (H : ROff σ a A) (O : OfcOk A) (hnt : nt = A.nt) (ha : a + 11 < 115) (hL : L.length < 20) {p1 p2 p3 : Nat} (h1 : p1 < A.np) (h2 : p2 < A.np) (h3 : p3 < A.np) :
   ∃ τ, Ag (fun b => 115 ≤ b ∧ b ≤ 119) σ τ ∧ RWs τ nt (if (A.tr p1 &&& A.tr p3) &&& (255 - (A.tr p1 &&& A.tr p2)) = 0 then L else L ++ [(A.tr p1 &&& A.tr p2, A.tr p1 &&& A.tr p3)]) (fun _ => 1) ∧ ∀ K, zC (d + 2) 135 [.ref 115, .ref a, .int (nI p1), .int (nI p2), .int (nI p3)] σ K = K none τ := by
  have h8 := O.p8
  have t8 := O.t8
  have w256 : A.tr p1 &&& A.tr p2 < 256 := Nat.lt_of_le_of_lt Nat.and_le_left (tr31 O h1)
  have g256 : A.tr p1 &&& A.tr p3 < 256 := Nat.lt_of_le_of_lt Nat.and_le_left (tr31 O h1)
  have e1 := H.a3 p1 h1
  have e2 := H.a3 p2 h2
  have e3 := H.a3 p3 h3
  have nn := nI_not (A.tr p1 &&& A.tr p3) w256 g256
  have p18 : p1 < 8 := by omega
  have p28 : p2 < 8 := by omega
  have p38 : p3 < 8 := by omega
  generalize hw : A.tr p1 &&& A.tr p2 = w at *
  generalize hg : A.tr p1 &&& A.tr p3 = g at *
  have ew : nI (A.tr p1) &&& nI (A.tr p2) = nI w := by rw [nI_and, hw]
  have eg : nI (A.tr p1) &&& nI (A.tr p3) = nI g := by rw [nI_and, hg]
  have Wk := W.k
  by_cases h0 : g &&& (255 - w) = 0
  · rw [if_pos h0]
    rw [h0] at nn
    refine ⟨σ, Ag.rf, W, fun K => ?_⟩
    rw [E_135]
    simp (disch := omega) only [L_135_0, zt_135_0, L_135_25, zt_135_25, L_135_26, zt_135_26, L_135_76, zt_135_76, ↓e_iconst0, ↓e_iconst1, ↓e_bipush0, ↓e_bipush1, ↓e_sipush0, ↓e_sipush1, ↓e_ldc0, ↓e_ldc1, ↓e_ldc_w0, ↓e_ldc_w1, ↓e_ldc2, ↓e_lconst0, ↓e_lconst1, ↓e_ldc2_w0, ↓e_ldc2_w1, ↓e_iload, ↓e_iload_n, ↓e_istore, ↓e_istore_n, ↓e_lload, ↓e_lload_n, ↓e_lstore, ↓e_lstore_n, ↓e_aload, ↓e_aload_n, ↓e_astore, ↓e_astore_n, ↓e_iinc0, ↓e_iinc1, ↓e_iadd, ↓e_isub, ↓e_imul, ↓e_iand, ↓e_ior, ↓e_ixor, ↓e_ishl, ↓e_ishr, ↓e_iushr, ↓e_ladd, ↓e_lsub, ↓e_lmul, ↓e_land, ↓e_lor, ↓e_idiv, ↓e_irem, ↓e_ldiv, ↓e_lrem, ↓e_lshl, ↓e_lcmp, ↓e_i2l, ↓e_l2i, ↓e_i2b, ↓e_i2s, ↓e_dup_int, ↓e_pop_int, ↓e_dup_ref, ↓e_pop_ref, ↓e_dup2, ↓e_goto, ↓e_nop, ↓e_ifCond_eq, ↓e_if_icmp_eq, ↓e_ifCond_ne, ↓e_if_icmp_ne, ↓e_ifCond_lt, ↓e_if_icmp_lt, ↓e_ifCond_ge, ↓e_if_icmp_ge, ↓e_ifCond_gt, ↓e_if_icmp_gt, ↓e_ifCond_le, ↓e_if_icmp_le, ↓e_tab, ↓e_look, ↓e_get0, ↓e_get1, ↓e_get2, ↓e_get3, ↓e_put0, ↓e_put1, ↓e_put2, ↓e_put3, ↓e_iaload, ↓e_laload, ↓e_baload, ↓e_aaload, ↓e_iastore, ↓e_lastore, ↓e_bastore, ↓e_aastore, ↓e_alen, ↓e_new, ↓e_newarray, ↓e_anewarray, ↓e_objinit, ↓e_virt1, ↓e_virt2, ↓e_virt3, ↓e_virt4, ↓e_virt5, ↓e_virt6, ↓e_virt7, ↓e_stat0, ↓e_stat1, ↓e_stat2, ↓e_stat3, ↓e_stat4, ↓e_stat5, ↓e_stat6, ↓e_stat7, ↓e_spec1, ↓e_spec2, ↓e_spec3, ↓e_spec4, ↓e_spec5, ↓e_strlen, ↓e_charAt, ↓e_copy, ↓e_iret0, ↓e_iret1, ↓e_lret, ↓e_aret, ↓e_vret, zIsI_int, zIsL_long, zIsA_ref, zInt_int, true_and, and_true, ↓reduceIte, zGet, zSet, zSet2, zEnt, zWid, Value.category, List.map_cons, List.map_nil, List.sum_cons, List.sum_nil, List.replicate, Option.toList, Nat.reduceAdd, Nat.reduceSub, Nat.reduceMul, Nat.reduceLeDiff, Nat.reduceEqDiff, Nat.reduceLT, List.cons_append, List.nil_append, true_or, or_true, or_false, false_or, H.k, H.i0, H.i1, H.i2, H.i3, H.i4, H.i5, H.i6, H.i7, H.r8, H.r9, H.r10, H.r11, H.r12, H.r13, H.r14, H.r15, H.r16, H.r17, H.r18, H.k1, H.k2, H.k3, H.k4, H.k5, H.k6, H.k7, H.k8, H.k9, H.k10, H.k11, nI_eq, zIn_nI, nI_clamp, bI_0, ↓c_isPaper H O, isI_np O h1, isI_np O h2, isI_np O h3, p18, p28, p38, e1, e2, e3, ew, eg, nn, Nat.reduceEqDiff, reduceCtorEq]
  · rw [if_neg h0]
    have f0 : Ag (fun b => b = 118 ∨ b = 119) σ (setI σ 118 L.length (nI 0)) := Ag.rf.setI (.inl rfl)
    obtain ⟨⟨τ, jv⟩, ⟨i1, i2, i3, i4, i5⟩, e⟩ := zloop (fun (t : Nat) (z : MS × Value) => Ag (fun b => b = 118 ∨ b = 119) σ z.1 ∧ (∀ i, i < L.length * 8 → sI z.1 119 i = sI σ 119 i) ∧ (∀ j, j < L.length → sI z.1 118 j = sI σ 118 j) ∧ (∀ i, i < t → sI z.1 119 (L.length * 8 + i) = iI (sgT (w, g) i)) ∧ sI z.1 118 L.length = iI (sI3 (fun _ => 1) (w, g) t)) (P := fun t z K => zX (d + 1) 135 90 [.ref 115, .ref a, .int (nI p1), .int (nI p2), .int (nI p3), .int (nI w), .int (nI g), .int (nI t), z.2] [] z.1 K) (n := nt) (fun t z ht hI => by
      obtain ⟨τ, jv⟩ := z
      dsimp only at hI ⊢
      obtain ⟨i1, i2, i3, i4, i5⟩ := hI
      have Wk := W.k.ag i1
      have n1 := (i1.I (b := 115) (by omega) 1).trans W.n
      have n2 := (i1.I (b := 115) (by omega) 2).trans W.m
      have b160 : L.length * 8 + t < 160 := by omega
      have sb : bI (w.testBit t) - bI (g.testBit t) = iI (sgT (w, g) t) := bI_sg _ _
      have sa : iI (sI3 (fun _ => 1) (w, g) t) + iI (sgT (w, g) t) = iI (sI3 (fun _ => 1) (w, g) (t + 1)) := by
        rw [iI_add]
        congr 1
        show _ = sI3 (fun _ => 1) (w, g) t + ((1 : Nat) : Int) * sgT (w, g) t
        omega
      have r8 : sI (setI τ 119 (L.length * 8 + t) (iI (sgT (w, g) t))) 118 L.length = iI (sI3 (fun _ => 1) (w, g) t) := by rw [sI_setI, if_neg (by omega)]; exact i5
      have r2 : sI (setI τ 119 (L.length * 8 + t) (iI (sgT (w, g) t))) 115 2 = nI L.length := by rw [sI_setI, if_neg (by omega)]; exact n2
      refine ⟨(setI (setI τ 119 (L.length * 8 + t) (iI (sgT (w, g) t))) 118 L.length (iI (sI3 (fun _ => 1) (w, g) (t + 1))), .int (iI (sgT (w, g) t))), ⟨(i1.setI (.inr rfl)).setI (.inl rfl), fun i hi => ?_, fun j hj => ?_, fun i hi => ?_, ?_⟩, ?_⟩
      · rw [sI_setI, if_neg (by omega), sI_setI, if_neg (by omega)]; exact i2 i hi
      · rw [sI_setI, if_neg (by omega), sI_setI, if_neg (by omega)]; exact i3 j hj
      · rw [sI_setI, if_neg (by omega), sI_setI]
        by_cases h : i = t
        · rw [if_pos ⟨rfl, by omega⟩, h]
        · rw [if_neg (by omega)]; exact i4 i (by omega)
      · rw [sI_setI, if_pos ⟨rfl, rfl⟩]
      · funext K
        rw [L_135_90, zt_135_90]
        simp (disch := omega) only [↓e_iconst0, ↓e_iconst1, ↓e_bipush0, ↓e_bipush1, ↓e_sipush0, ↓e_sipush1, ↓e_ldc0, ↓e_ldc1, ↓e_ldc_w0, ↓e_ldc_w1, ↓e_ldc2, ↓e_lconst0, ↓e_lconst1, ↓e_ldc2_w0, ↓e_ldc2_w1, ↓e_iload, ↓e_iload_n, ↓e_istore, ↓e_istore_n, ↓e_lload, ↓e_lload_n, ↓e_lstore, ↓e_lstore_n, ↓e_aload, ↓e_aload_n, ↓e_astore, ↓e_astore_n, ↓e_iinc0, ↓e_iinc1, ↓e_iadd, ↓e_isub, ↓e_imul, ↓e_iand, ↓e_ior, ↓e_ixor, ↓e_ishl, ↓e_ishr, ↓e_iushr, ↓e_ladd, ↓e_lsub, ↓e_lmul, ↓e_land, ↓e_lor, ↓e_idiv, ↓e_irem, ↓e_ldiv, ↓e_lrem, ↓e_lshl, ↓e_lcmp, ↓e_i2l, ↓e_l2i, ↓e_i2b, ↓e_i2s, ↓e_dup_int, ↓e_pop_int, ↓e_dup_ref, ↓e_pop_ref, ↓e_dup2, ↓e_goto, ↓e_nop, ↓e_ifCond_eq, ↓e_if_icmp_eq, ↓e_ifCond_ne, ↓e_if_icmp_ne, ↓e_ifCond_lt, ↓e_if_icmp_lt, ↓e_ifCond_ge, ↓e_if_icmp_ge, ↓e_ifCond_gt, ↓e_if_icmp_gt, ↓e_ifCond_le, ↓e_if_icmp_le, ↓e_tab, ↓e_look, ↓e_get0, ↓e_get1, ↓e_get2, ↓e_get3, ↓e_put0, ↓e_put1, ↓e_put2, ↓e_put3, ↓e_iaload, ↓e_laload, ↓e_baload, ↓e_aaload, ↓e_iastore, ↓e_lastore, ↓e_bastore, ↓e_aastore, ↓e_alen, ↓e_new, ↓e_newarray, ↓e_anewarray, ↓e_objinit, ↓e_virt1, ↓e_virt2, ↓e_virt3, ↓e_virt4, ↓e_virt5, ↓e_virt6, ↓e_virt7, ↓e_stat0, ↓e_stat1, ↓e_stat2, ↓e_stat3, ↓e_stat4, ↓e_stat5, ↓e_stat6, ↓e_stat7, ↓e_spec1, ↓e_spec2, ↓e_spec3, ↓e_spec4, ↓e_spec5, ↓e_strlen, ↓e_charAt, ↓e_copy, ↓e_iret0, ↓e_iret1, ↓e_lret, ↓e_aret, ↓e_vret, zIsI_int, zIsL_long, zIsA_ref, zInt_int, true_and, and_true, ↓reduceIte, zGet, zSet, zSet2, zEnt, zWid, Value.category, List.map_cons, List.map_nil, List.sum_cons, List.sum_nil, List.replicate, Option.toList, Nat.reduceAdd, Nat.reduceSub, Nat.reduceMul, Nat.reduceLeDiff, Nat.reduceEqDiff, Nat.reduceLT, List.cons_append, List.nil_append, true_or, or_true, or_false, false_or, Wk.k, Wk.r5, Wk.r6, Wk.k3, Wk.k4, n1, n2, nI_ltI, ht, nI_bit, sb, nI_mul, nI_add, zIn_nI, nI_clamp, b160, hL, sK_setI, sR_setI, sL_setI, r8, r2, sa]) (setI σ 118 L.length (nI 0), .null) ⟨f0, fun i _ => by rw [sI_setI, if_neg (by omega)], fun j hj => by rw [sI_setI, if_neg (by omega)], fun i hi => absurd hi (Nat.not_lt_zero i), by rw [sI_setI, if_pos ⟨rfl, rfl⟩]; rfl⟩
    dsimp only at i1 i2 i3 i4 i5 e
    have f1 : Ag (fun b => 115 ≤ b ∧ b ≤ 119) σ (setI τ 115 2 (nI (L.length + 1))) := (i1.mono (fun b hb => by omega)).setI (by omega)
    have Wk1 := W.k.ag i1
    have n2 := (i1.I (b := 115) (by omega) 2).trans W.m
    have n1 := (i1.I (b := 115) (by omega) 1).trans W.n
    refine ⟨setI τ 115 2 (nI (L.length + 1)), f1, RWs.mk (W.k.ag f1) (by rw [sI_setI, if_neg (by omega)]; exact n1) (by rw [sI_setI, if_pos ⟨rfl, rfl⟩, List.length_append]; rfl) (fun j t hj ht => ?_) (fun j hj => ?_), fun K => ?_⟩
    · rw [List.length_append] at hj
      have hj : j < L.length + 1 := hj
      rw [sI_setI, if_neg (by omega), getD_app]
      by_cases h : j < L.length
      · rw [if_pos h, i2 _ (by omega)]; exact W.sg j t h ht
      · rw [if_neg h, if_pos (by omega), show j = L.length by omega]; exact i4 t ht
    · rw [List.length_append] at hj
      have hj : j < L.length + 1 := hj
      rw [sI_setI, if_neg (by omega), getD_app]
      by_cases h : j < L.length
      · rw [if_pos h, i3 j h]; exact W.su j h
      · rw [if_neg h, if_pos (by omega), show j = L.length by omega]; exact i5
    · have en : ¬ g &&& (255 - w) = 0 := h0
      have z31 : g &&& (255 - w) < 256 := Nat.lt_of_le_of_lt Nat.and_le_left g256
      have W2 := W.m
      rw [E_135]
      simp (disch := omega) only [L_135_0, zt_135_0, L_135_25, zt_135_25, L_135_26, zt_135_26, L_135_76, zt_135_76, L_135_77, zt_135_77, ↓e_iconst0, ↓e_iconst1, ↓e_bipush0, ↓e_bipush1, ↓e_sipush0, ↓e_sipush1, ↓e_ldc0, ↓e_ldc1, ↓e_ldc_w0, ↓e_ldc_w1, ↓e_ldc2, ↓e_lconst0, ↓e_lconst1, ↓e_ldc2_w0, ↓e_ldc2_w1, ↓e_iload, ↓e_iload_n, ↓e_istore, ↓e_istore_n, ↓e_lload, ↓e_lload_n, ↓e_lstore, ↓e_lstore_n, ↓e_aload, ↓e_aload_n, ↓e_astore, ↓e_astore_n, ↓e_iinc0, ↓e_iinc1, ↓e_iadd, ↓e_isub, ↓e_imul, ↓e_iand, ↓e_ior, ↓e_ixor, ↓e_ishl, ↓e_ishr, ↓e_iushr, ↓e_ladd, ↓e_lsub, ↓e_lmul, ↓e_land, ↓e_lor, ↓e_idiv, ↓e_irem, ↓e_ldiv, ↓e_lrem, ↓e_lshl, ↓e_lcmp, ↓e_i2l, ↓e_l2i, ↓e_i2b, ↓e_i2s, ↓e_dup_int, ↓e_pop_int, ↓e_dup_ref, ↓e_pop_ref, ↓e_dup2, ↓e_goto, ↓e_nop, ↓e_ifCond_eq, ↓e_if_icmp_eq, ↓e_ifCond_ne, ↓e_if_icmp_ne, ↓e_ifCond_lt, ↓e_if_icmp_lt, ↓e_ifCond_ge, ↓e_if_icmp_ge, ↓e_ifCond_gt, ↓e_if_icmp_gt, ↓e_ifCond_le, ↓e_if_icmp_le, ↓e_tab, ↓e_look, ↓e_get0, ↓e_get1, ↓e_get2, ↓e_get3, ↓e_put0, ↓e_put1, ↓e_put2, ↓e_put3, ↓e_iaload, ↓e_laload, ↓e_baload, ↓e_aaload, ↓e_iastore, ↓e_lastore, ↓e_bastore, ↓e_aastore, ↓e_alen, ↓e_new, ↓e_newarray, ↓e_anewarray, ↓e_objinit, ↓e_virt1, ↓e_virt2, ↓e_virt3, ↓e_virt4, ↓e_virt5, ↓e_virt6, ↓e_virt7, ↓e_stat0, ↓e_stat1, ↓e_stat2, ↓e_stat3, ↓e_stat4, ↓e_stat5, ↓e_stat6, ↓e_stat7, ↓e_spec1, ↓e_spec2, ↓e_spec3, ↓e_spec4, ↓e_spec5, ↓e_strlen, ↓e_charAt, ↓e_copy, ↓e_iret0, ↓e_iret1, ↓e_lret, ↓e_aret, ↓e_vret, zIsI_int, zIsL_long, zIsA_ref, zInt_int, true_and, and_true, ↓reduceIte, zGet, zSet, zSet2, zEnt, zWid, Value.category, List.map_cons, List.map_nil, List.sum_cons, List.sum_nil, List.replicate, Option.toList, Nat.reduceAdd, Nat.reduceSub, Nat.reduceMul, Nat.reduceLeDiff, Nat.reduceEqDiff, Nat.reduceLT, List.cons_append, List.nil_append, true_or, or_true, or_false, false_or, H.k, H.i0, H.i1, H.i2, H.i3, H.i4, H.i5, H.i6, H.i7, H.r8, H.r9, H.r10, H.r11, H.r12, H.r13, H.r14, H.r15, H.r16, H.r17, H.r18, H.k1, H.k2, H.k3, H.k4, H.k5, H.k6, H.k7, H.k8, H.k9, H.k10, H.k11, nI_eq, nI_ltI, zIn_nI, nI_clamp, bI_0, ↓c_isPaper H O, isI_np O h1, isI_np O h2, isI_np O h3, p18, p28, p38, e1, e2, e3, ew, eg, nn, en, Wk.k, Wk.r5, Wk.k3, W2, hL, Nat.reduceEqDiff, reduceCtorEq]
      refine Eq.trans (congrFun e K) ?_
      rw [L_135_90, zt_135_90]
      simp (disch := omega) only [L_135_153, zt_135_153, ↓e_iconst0, ↓e_iconst1, ↓e_bipush0, ↓e_bipush1, ↓e_sipush0, ↓e_sipush1, ↓e_ldc0, ↓e_ldc1, ↓e_ldc_w0, ↓e_ldc_w1, ↓e_ldc2, ↓e_lconst0, ↓e_lconst1, ↓e_ldc2_w0, ↓e_ldc2_w1, ↓e_iload, ↓e_iload_n, ↓e_istore, ↓e_istore_n, ↓e_lload, ↓e_lload_n, ↓e_lstore, ↓e_lstore_n, ↓e_aload, ↓e_aload_n, ↓e_astore, ↓e_astore_n, ↓e_iinc0, ↓e_iinc1, ↓e_iadd, ↓e_isub, ↓e_imul, ↓e_iand, ↓e_ior, ↓e_ixor, ↓e_ishl, ↓e_ishr, ↓e_iushr, ↓e_ladd, ↓e_lsub, ↓e_lmul, ↓e_land, ↓e_lor, ↓e_idiv, ↓e_irem, ↓e_ldiv, ↓e_lrem, ↓e_lshl, ↓e_lcmp, ↓e_i2l, ↓e_l2i, ↓e_i2b, ↓e_i2s, ↓e_dup_int, ↓e_pop_int, ↓e_dup_ref, ↓e_pop_ref, ↓e_dup2, ↓e_goto, ↓e_nop, ↓e_ifCond_eq, ↓e_if_icmp_eq, ↓e_ifCond_ne, ↓e_if_icmp_ne, ↓e_ifCond_lt, ↓e_if_icmp_lt, ↓e_ifCond_ge, ↓e_if_icmp_ge, ↓e_ifCond_gt, ↓e_if_icmp_gt, ↓e_ifCond_le, ↓e_if_icmp_le, ↓e_tab, ↓e_look, ↓e_get0, ↓e_get1, ↓e_get2, ↓e_get3, ↓e_put0, ↓e_put1, ↓e_put2, ↓e_put3, ↓e_iaload, ↓e_laload, ↓e_baload, ↓e_aaload, ↓e_iastore, ↓e_lastore, ↓e_bastore, ↓e_aastore, ↓e_alen, ↓e_new, ↓e_newarray, ↓e_anewarray, ↓e_objinit, ↓e_virt1, ↓e_virt2, ↓e_virt3, ↓e_virt4, ↓e_virt5, ↓e_virt6, ↓e_virt7, ↓e_stat0, ↓e_stat1, ↓e_stat2, ↓e_stat3, ↓e_stat4, ↓e_stat5, ↓e_stat6, ↓e_stat7, ↓e_spec1, ↓e_spec2, ↓e_spec3, ↓e_spec4, ↓e_spec5, ↓e_strlen, ↓e_charAt, ↓e_copy, ↓e_iret0, ↓e_iret1, ↓e_lret, ↓e_aret, ↓e_vret, zIsI_int, zIsL_long, zIsA_ref, zInt_int, true_and, and_true, ↓reduceIte, zGet, zSet, zSet2, zEnt, zWid, Value.category, List.map_cons, List.map_nil, List.sum_cons, List.sum_nil, List.replicate, Option.toList, Nat.reduceAdd, Nat.reduceSub, Nat.reduceMul, Nat.reduceLeDiff, Nat.reduceEqDiff, Nat.reduceLT, List.cons_append, List.nil_append, true_or, or_true, or_false, false_or, nI_ltI, nI_leI, nI_eq, nI_clamp, zIn_nI, bI_0, nI_add, nI_mul, nI_or, nI_and, nI_shl1, nI_bit, ↓pk_rem, pk_div, Nat.lt_irrefl, Nat.not_lt_zero, reduceCtorEq, Wk1.k, n1, n2]
theorem c_changeWeight (W : RWs σ nt L v) (h8 : nt ≤ 8) (hL : L.length ≤ 20) (hr : ∀ t, t < nt → sI σ 116 t = nI (v t)) {t : Nat} (ht : t < nt) {b : Int} {v' : Nat → Nat} (hv : (v' t : Int) = v t + b) (ho : ∀ i, i ≠ t → v' i = v i) :
   ∃ τ, Ag (fun b => b = 116 ∨ b = 118) σ τ ∧ RWs τ nt L v' ∧ (∀ t, t < nt → sI τ 116 t = nI (v' t)) ∧ ∀ K, zC (d + 1) 139 [.ref 115, .int (nI t), .int (iI b)] σ K = K none τ := by
  have t8 : t < 8 := by omega
  have ev : nI (v t) + iI b = nI (v' t) := by rw [nI_iI, iI_add, ← hv]; rfl
  have f0 : Ag (fun b => b = 116 ∨ b = 118) σ (setI σ 116 t (nI (v' t))) := Ag.rf.setI (.inl rfl)
  obtain ⟨τ, ⟨i1, i2, i3, i4⟩, e⟩ := zloop (fun (k : Nat) (z : MS) => Ag (fun b => b = 116 ∨ b = 118) σ z ∧ (∀ i, sI z 116 i = sI (setI σ 116 t (nI (v' t))) 116 i) ∧ (∀ j, j < k → sI z 118 j = iI (sI3 v' (L.getD j (0, 0)) nt)) ∧ (∀ j, k ≤ j → sI z 118 j = sI σ 118 j)) (P := fun k z K => zX d 139 12 [.ref 115, .int (nI t), .int (iI b), .int (nI k)] [] z K) (n := L.length) (fun k z hk hI => by
    obtain ⟨i1, i2, i3, i4⟩ := hI
    have Wk := W.k.ag i1
    have n2 := (i1.I (b := 115) (by omega) 2).trans W.m
    have sg := (i1.I (b := 119) (by omega) (k * 8 + t)).trans (W.sg k t hk ht)
    have su := (i4 k (Nat.le_refl _)).trans (W.su k hk)
    have k20 : k < 20 := by omega
    have b160 : k * 8 + t < 160 := by omega
    have up := sI3_up (p := L.getD k (0, 0)) hv ho nt
    rw [if_pos ht] at up
    have es : iI (sI3 v (L.getD k (0, 0)) nt) + iI b * iI (sgT (L.getD k (0, 0)) t) = iI (sI3 v' (L.getD k (0, 0)) nt) := by rw [iI_mul, iI_add, up]
    refine ⟨setI z 118 k (iI (sI3 v' (L.getD k (0, 0)) nt)), ⟨i1.setI (.inr rfl), fun i => by rw [sI_setI, if_neg (by omega)]; exact i2 i, fun j hj => ?_, fun j hj => by rw [sI_setI, if_neg (by omega)]; exact i4 j (by omega)⟩, ?_⟩
    · rw [sI_setI]
      by_cases h : j = k
      · rw [if_pos ⟨rfl, h⟩, h]
      · rw [if_neg (fun x => h x.2)]; exact i3 j (by omega)
    · funext K
      rw [L_139_12, zt_139_12]
      simp (disch := omega) only [↓e_iconst0, ↓e_iconst1, ↓e_bipush0, ↓e_bipush1, ↓e_sipush0, ↓e_sipush1, ↓e_ldc0, ↓e_ldc1, ↓e_ldc_w0, ↓e_ldc_w1, ↓e_ldc2, ↓e_lconst0, ↓e_lconst1, ↓e_ldc2_w0, ↓e_ldc2_w1, ↓e_iload, ↓e_iload_n, ↓e_istore, ↓e_istore_n, ↓e_lload, ↓e_lload_n, ↓e_lstore, ↓e_lstore_n, ↓e_aload, ↓e_aload_n, ↓e_astore, ↓e_astore_n, ↓e_iinc0, ↓e_iinc1, ↓e_iadd, ↓e_isub, ↓e_imul, ↓e_iand, ↓e_ior, ↓e_ixor, ↓e_ishl, ↓e_ishr, ↓e_iushr, ↓e_ladd, ↓e_lsub, ↓e_lmul, ↓e_land, ↓e_lor, ↓e_idiv, ↓e_irem, ↓e_ldiv, ↓e_lrem, ↓e_lshl, ↓e_lcmp, ↓e_i2l, ↓e_l2i, ↓e_i2b, ↓e_i2s, ↓e_dup_int, ↓e_pop_int, ↓e_dup_ref, ↓e_pop_ref, ↓e_dup2, ↓e_goto, ↓e_nop, ↓e_ifCond_eq, ↓e_if_icmp_eq, ↓e_ifCond_ne, ↓e_if_icmp_ne, ↓e_ifCond_lt, ↓e_if_icmp_lt, ↓e_ifCond_ge, ↓e_if_icmp_ge, ↓e_ifCond_gt, ↓e_if_icmp_gt, ↓e_ifCond_le, ↓e_if_icmp_le, ↓e_tab, ↓e_look, ↓e_get0, ↓e_get1, ↓e_get2, ↓e_get3, ↓e_put0, ↓e_put1, ↓e_put2, ↓e_put3, ↓e_iaload, ↓e_laload, ↓e_baload, ↓e_aaload, ↓e_iastore, ↓e_lastore, ↓e_bastore, ↓e_aastore, ↓e_alen, ↓e_new, ↓e_newarray, ↓e_anewarray, ↓e_objinit, ↓e_virt1, ↓e_virt2, ↓e_virt3, ↓e_virt4, ↓e_virt5, ↓e_virt6, ↓e_virt7, ↓e_stat0, ↓e_stat1, ↓e_stat2, ↓e_stat3, ↓e_stat4, ↓e_stat5, ↓e_stat6, ↓e_stat7, ↓e_spec1, ↓e_spec2, ↓e_spec3, ↓e_spec4, ↓e_spec5, ↓e_strlen, ↓e_charAt, ↓e_copy, ↓e_iret0, ↓e_iret1, ↓e_lret, ↓e_aret, ↓e_vret, zIsI_int, zIsL_long, zIsA_ref, zInt_int, true_and, and_true, ↓reduceIte, zGet, zSet, zSet2, zEnt, zWid, Value.category, List.map_cons, List.map_nil, List.sum_cons, List.sum_nil, List.replicate, Option.toList, Nat.reduceAdd, Nat.reduceSub, Nat.reduceMul, Nat.reduceLeDiff, Nat.reduceEqDiff, Nat.reduceLT, List.cons_append, List.nil_append, true_or, or_true, or_false, false_or, Wk.k, Wk.r5, Wk.r6, Wk.k3, Wk.k4, n2, nI_ltI, hk, nI_mul, nI_add, zIn_nI, nI_clamp, k20, b160, sg, su, es]) (setI σ 116 t (nI (v' t))) ⟨f0, fun _ => rfl, fun j hj => absurd hj (Nat.not_lt_zero j), fun j _ => by rw [sI_setI, if_neg (by omega)]⟩
  have n2 := (i1.I (b := 115) (by omega) 2).trans W.m
  refine ⟨τ, i1, RWs.mk (W.k.ag i1) ((i1.I (by omega) _).trans W.n) n2 (fun j t hj ht => (i1.I (by omega) _).trans (W.sg j t hj ht)) i3, fun i hi => ?_, fun K => ?_⟩
  · rw [i2, sI_setI]
    by_cases h : i = t
    · rw [if_pos ⟨rfl, h⟩, h]
    · rw [if_neg (fun x => h x.2), ho i h]; exact hr i hi
  · have Wk := W.k
    have Wk1 := W.k.ag i1
    have rt := hr t ht
    rw [E_139]
    simp (disch := omega) only [L_139_0, zt_139_0, ↓e_iconst0, ↓e_iconst1, ↓e_bipush0, ↓e_bipush1, ↓e_sipush0, ↓e_sipush1, ↓e_ldc0, ↓e_ldc1, ↓e_ldc_w0, ↓e_ldc_w1, ↓e_ldc2, ↓e_lconst0, ↓e_lconst1, ↓e_ldc2_w0, ↓e_ldc2_w1, ↓e_iload, ↓e_iload_n, ↓e_istore, ↓e_istore_n, ↓e_lload, ↓e_lload_n, ↓e_lstore, ↓e_lstore_n, ↓e_aload, ↓e_aload_n, ↓e_astore, ↓e_astore_n, ↓e_iinc0, ↓e_iinc1, ↓e_iadd, ↓e_isub, ↓e_imul, ↓e_iand, ↓e_ior, ↓e_ixor, ↓e_ishl, ↓e_ishr, ↓e_iushr, ↓e_ladd, ↓e_lsub, ↓e_lmul, ↓e_land, ↓e_lor, ↓e_idiv, ↓e_irem, ↓e_ldiv, ↓e_lrem, ↓e_lshl, ↓e_lcmp, ↓e_i2l, ↓e_l2i, ↓e_i2b, ↓e_i2s, ↓e_dup_int, ↓e_pop_int, ↓e_dup_ref, ↓e_pop_ref, ↓e_dup2, ↓e_goto, ↓e_nop, ↓e_ifCond_eq, ↓e_if_icmp_eq, ↓e_ifCond_ne, ↓e_if_icmp_ne, ↓e_ifCond_lt, ↓e_if_icmp_lt, ↓e_ifCond_ge, ↓e_if_icmp_ge, ↓e_ifCond_gt, ↓e_if_icmp_gt, ↓e_ifCond_le, ↓e_if_icmp_le, ↓e_tab, ↓e_look, ↓e_get0, ↓e_get1, ↓e_get2, ↓e_get3, ↓e_put0, ↓e_put1, ↓e_put2, ↓e_put3, ↓e_iaload, ↓e_laload, ↓e_baload, ↓e_aaload, ↓e_iastore, ↓e_lastore, ↓e_bastore, ↓e_aastore, ↓e_alen, ↓e_new, ↓e_newarray, ↓e_anewarray, ↓e_objinit, ↓e_virt1, ↓e_virt2, ↓e_virt3, ↓e_virt4, ↓e_virt5, ↓e_virt6, ↓e_virt7, ↓e_stat0, ↓e_stat1, ↓e_stat2, ↓e_stat3, ↓e_stat4, ↓e_stat5, ↓e_stat6, ↓e_stat7, ↓e_spec1, ↓e_spec2, ↓e_spec3, ↓e_spec4, ↓e_spec5, ↓e_strlen, ↓e_charAt, ↓e_copy, ↓e_iret0, ↓e_iret1, ↓e_lret, ↓e_aret, ↓e_vret, zIsI_int, zIsL_long, zIsA_ref, zInt_int, true_and, and_true, ↓reduceIte, zGet, zSet, zSet2, zEnt, zWid, Value.category, List.map_cons, List.map_nil, List.sum_cons, List.sum_nil, List.replicate, Option.toList, Nat.reduceAdd, Nat.reduceSub, Nat.reduceMul, Nat.reduceLeDiff, Nat.reduceEqDiff, Nat.reduceLT, List.cons_append, List.nil_append, true_or, or_true, or_false, false_or, Wk.k, Wk.r3, Wk.k1, zIn_nI, nI_clamp, t8, rt, ev]
    refine Eq.trans (congrFun e K) ?_
    rw [L_139_12, zt_139_12]
    simp (disch := omega) only [L_139_48, zt_139_48, ↓e_iconst0, ↓e_iconst1, ↓e_bipush0, ↓e_bipush1, ↓e_sipush0, ↓e_sipush1, ↓e_ldc0, ↓e_ldc1, ↓e_ldc_w0, ↓e_ldc_w1, ↓e_ldc2, ↓e_lconst0, ↓e_lconst1, ↓e_ldc2_w0, ↓e_ldc2_w1, ↓e_iload, ↓e_iload_n, ↓e_istore, ↓e_istore_n, ↓e_lload, ↓e_lload_n, ↓e_lstore, ↓e_lstore_n, ↓e_aload, ↓e_aload_n, ↓e_astore, ↓e_astore_n, ↓e_iinc0, ↓e_iinc1, ↓e_iadd, ↓e_isub, ↓e_imul, ↓e_iand, ↓e_ior, ↓e_ixor, ↓e_ishl, ↓e_ishr, ↓e_iushr, ↓e_ladd, ↓e_lsub, ↓e_lmul, ↓e_land, ↓e_lor, ↓e_idiv, ↓e_irem, ↓e_ldiv, ↓e_lrem, ↓e_lshl, ↓e_lcmp, ↓e_i2l, ↓e_l2i, ↓e_i2b, ↓e_i2s, ↓e_dup_int, ↓e_pop_int, ↓e_dup_ref, ↓e_pop_ref, ↓e_dup2, ↓e_goto, ↓e_nop, ↓e_ifCond_eq, ↓e_if_icmp_eq, ↓e_ifCond_ne, ↓e_if_icmp_ne, ↓e_ifCond_lt, ↓e_if_icmp_lt, ↓e_ifCond_ge, ↓e_if_icmp_ge, ↓e_ifCond_gt, ↓e_if_icmp_gt, ↓e_ifCond_le, ↓e_if_icmp_le, ↓e_tab, ↓e_look, ↓e_get0, ↓e_get1, ↓e_get2, ↓e_get3, ↓e_put0, ↓e_put1, ↓e_put2, ↓e_put3, ↓e_iaload, ↓e_laload, ↓e_baload, ↓e_aaload, ↓e_iastore, ↓e_lastore, ↓e_bastore, ↓e_aastore, ↓e_alen, ↓e_new, ↓e_newarray, ↓e_anewarray, ↓e_objinit, ↓e_virt1, ↓e_virt2, ↓e_virt3, ↓e_virt4, ↓e_virt5, ↓e_virt6, ↓e_virt7, ↓e_stat0, ↓e_stat1, ↓e_stat2, ↓e_stat3, ↓e_stat4, ↓e_stat5, ↓e_stat6, ↓e_stat7, ↓e_spec1, ↓e_spec2, ↓e_spec3, ↓e_spec4, ↓e_spec5, ↓e_strlen, ↓e_charAt, ↓e_copy, ↓e_iret0, ↓e_iret1, ↓e_lret, ↓e_aret, ↓e_vret, zIsI_int, zIsL_long, zIsA_ref, zInt_int, true_and, and_true, ↓reduceIte, zGet, zSet, zSet2, zEnt, zWid, Value.category, List.map_cons, List.map_nil, List.sum_cons, List.sum_nil, List.replicate, Option.toList, Nat.reduceAdd, Nat.reduceSub, Nat.reduceMul, Nat.reduceLeDiff, Nat.reduceEqDiff, Nat.reduceLT, List.cons_append, List.nil_append, true_or, or_true, or_false, false_or, nI_ltI, nI_leI, nI_eq, nI_clamp, zIn_nI, bI_0, nI_add, nI_mul, nI_or, nI_and, nI_shl1, nI_bit, ↓pk_rem, pk_div, Nat.lt_irrefl, Nat.not_lt_zero, reduceCtorEq, Wk1.k, n2]
def geA (f : Nat → Int) : Nat → Nat → Bool
  | 0, _ => true
  | m + 1, i => if f i < 0 then false else geA f m (i + 1)
theorem geA_iff (f : Nat → Int) : ∀ (m i : Nat), geA f m i = true ↔ ∀ j, i ≤ j → j < i + m → 0 ≤ f j := by
  intro m
  induction m with
  | zero => intro i; exact ⟨fun _ j h1 h2 => by omega, fun _ => rfl⟩
  | succ m ih =>
    intro i
    unfold geA
    by_cases h : f i < 0
    · rw [if_pos h]
      exact ⟨fun hh => (by cases hh), fun hh => by have := hh i (Nat.le_refl _) (by omega); omega⟩
    · rw [if_neg h, ih]
      refine ⟨fun hh j h1 h2 => ?_, fun hh j h1 h2 => hh j (by omega) (by omega)⟩
      by_cases e : j = i
      · rw [e]; omega
      · exact hh j (by omega) (by omega)
theorem c_fits (W : RWs σ nt L v) (h8 : nt ≤ 8) (hL : L.length ≤ 20) (hv : ∀ t, v t ≤ 3) :
   zC (d + 1) 137 [.ref 115] σ K = K (some (.int (bI (geA (fun j => sI3 v (L.getD j (0, 0)) nt) L.length 0)))) σ := by
  have Wk := W.k
  have st : ∀ (m i : Nat), m + i = L.length → zX d 137 2 [.ref 115, .int (nI i)] [] σ K = K (some (.int (bI (geA (fun j => sI3 v (L.getD j (0, 0)) nt) m i)))) σ := by
    intro m
    induction m with
    | zero =>
      intro i hi
      have W2 := W.m
      rw [show L.length = i by omega] at W2
      rw [L_137_2, zt_137_2]
      simp (disch := omega) only [L_137_27, zt_137_27, ↓e_iconst0, ↓e_iconst1, ↓e_bipush0, ↓e_bipush1, ↓e_sipush0, ↓e_sipush1, ↓e_ldc0, ↓e_ldc1, ↓e_ldc_w0, ↓e_ldc_w1, ↓e_ldc2, ↓e_lconst0, ↓e_lconst1, ↓e_ldc2_w0, ↓e_ldc2_w1, ↓e_iload, ↓e_iload_n, ↓e_istore, ↓e_istore_n, ↓e_lload, ↓e_lload_n, ↓e_lstore, ↓e_lstore_n, ↓e_aload, ↓e_aload_n, ↓e_astore, ↓e_astore_n, ↓e_iinc0, ↓e_iinc1, ↓e_iadd, ↓e_isub, ↓e_imul, ↓e_iand, ↓e_ior, ↓e_ixor, ↓e_ishl, ↓e_ishr, ↓e_iushr, ↓e_ladd, ↓e_lsub, ↓e_lmul, ↓e_land, ↓e_lor, ↓e_idiv, ↓e_irem, ↓e_ldiv, ↓e_lrem, ↓e_lshl, ↓e_lcmp, ↓e_i2l, ↓e_l2i, ↓e_i2b, ↓e_i2s, ↓e_dup_int, ↓e_pop_int, ↓e_dup_ref, ↓e_pop_ref, ↓e_dup2, ↓e_goto, ↓e_nop, ↓e_ifCond_eq, ↓e_if_icmp_eq, ↓e_ifCond_ne, ↓e_if_icmp_ne, ↓e_ifCond_lt, ↓e_if_icmp_lt, ↓e_ifCond_ge, ↓e_if_icmp_ge, ↓e_ifCond_gt, ↓e_if_icmp_gt, ↓e_ifCond_le, ↓e_if_icmp_le, ↓e_tab, ↓e_look, ↓e_get0, ↓e_get1, ↓e_get2, ↓e_get3, ↓e_put0, ↓e_put1, ↓e_put2, ↓e_put3, ↓e_iaload, ↓e_laload, ↓e_baload, ↓e_aaload, ↓e_iastore, ↓e_lastore, ↓e_bastore, ↓e_aastore, ↓e_alen, ↓e_new, ↓e_newarray, ↓e_anewarray, ↓e_objinit, ↓e_virt1, ↓e_virt2, ↓e_virt3, ↓e_virt4, ↓e_virt5, ↓e_virt6, ↓e_virt7, ↓e_stat0, ↓e_stat1, ↓e_stat2, ↓e_stat3, ↓e_stat4, ↓e_stat5, ↓e_stat6, ↓e_stat7, ↓e_spec1, ↓e_spec2, ↓e_spec3, ↓e_spec4, ↓e_spec5, ↓e_strlen, ↓e_charAt, ↓e_copy, ↓e_iret0, ↓e_iret1, ↓e_lret, ↓e_aret, ↓e_vret, zIsI_int, zIsL_long, zIsA_ref, zInt_int, true_and, and_true, ↓reduceIte, zGet, zSet, zSet2, zEnt, zWid, Value.category, List.map_cons, List.map_nil, List.sum_cons, List.sum_nil, List.replicate, Option.toList, Nat.reduceAdd, Nat.reduceSub, Nat.reduceMul, Nat.reduceLeDiff, Nat.reduceEqDiff, Nat.reduceLT, List.cons_append, List.nil_append, true_or, or_true, or_false, false_or, nI_ltI, nI_leI, nI_eq, nI_clamp, zIn_nI, bI_0, nI_add, nI_mul, nI_or, nI_and, nI_shl1, nI_bit, ↓pk_rem, pk_div, Nat.lt_irrefl, Nat.not_lt_zero, reduceCtorEq, Wk.k, W2]
      rfl
    | succ m ih =>
      intro i hi
      have hi2 : i < L.length := by omega
      have i20 : i < 20 := by omega
      have W2 := W.m
      have su := W.su i hi2
      have bd := sI3_le (p := L.getD i (0, 0)) hv nt
      have lt : (iI (sI3 v (L.getD i (0, 0)) nt) < nI 0) = (sI3 v (L.getD i (0, 0)) nt < 0) := iI_lt (y := 0) (by omega) (by omega) (by omega) (by omega)
      have ih := ih (i + 1) (by omega)
      unfold geA
      rw [L_137_2, zt_137_2]
      by_cases h : sI3 v (L.getD i (0, 0)) nt < 0
      · simp (disch := omega) only [L_137_21, zt_137_21, ↓e_iconst0, ↓e_iconst1, ↓e_bipush0, ↓e_bipush1, ↓e_sipush0, ↓e_sipush1, ↓e_ldc0, ↓e_ldc1, ↓e_ldc_w0, ↓e_ldc_w1, ↓e_ldc2, ↓e_lconst0, ↓e_lconst1, ↓e_ldc2_w0, ↓e_ldc2_w1, ↓e_iload, ↓e_iload_n, ↓e_istore, ↓e_istore_n, ↓e_lload, ↓e_lload_n, ↓e_lstore, ↓e_lstore_n, ↓e_aload, ↓e_aload_n, ↓e_astore, ↓e_astore_n, ↓e_iinc0, ↓e_iinc1, ↓e_iadd, ↓e_isub, ↓e_imul, ↓e_iand, ↓e_ior, ↓e_ixor, ↓e_ishl, ↓e_ishr, ↓e_iushr, ↓e_ladd, ↓e_lsub, ↓e_lmul, ↓e_land, ↓e_lor, ↓e_idiv, ↓e_irem, ↓e_ldiv, ↓e_lrem, ↓e_lshl, ↓e_lcmp, ↓e_i2l, ↓e_l2i, ↓e_i2b, ↓e_i2s, ↓e_dup_int, ↓e_pop_int, ↓e_dup_ref, ↓e_pop_ref, ↓e_dup2, ↓e_goto, ↓e_nop, ↓e_ifCond_eq, ↓e_if_icmp_eq, ↓e_ifCond_ne, ↓e_if_icmp_ne, ↓e_ifCond_lt, ↓e_if_icmp_lt, ↓e_ifCond_ge, ↓e_if_icmp_ge, ↓e_ifCond_gt, ↓e_if_icmp_gt, ↓e_ifCond_le, ↓e_if_icmp_le, ↓e_tab, ↓e_look, ↓e_get0, ↓e_get1, ↓e_get2, ↓e_get3, ↓e_put0, ↓e_put1, ↓e_put2, ↓e_put3, ↓e_iaload, ↓e_laload, ↓e_baload, ↓e_aaload, ↓e_iastore, ↓e_lastore, ↓e_bastore, ↓e_aastore, ↓e_alen, ↓e_new, ↓e_newarray, ↓e_anewarray, ↓e_objinit, ↓e_virt1, ↓e_virt2, ↓e_virt3, ↓e_virt4, ↓e_virt5, ↓e_virt6, ↓e_virt7, ↓e_stat0, ↓e_stat1, ↓e_stat2, ↓e_stat3, ↓e_stat4, ↓e_stat5, ↓e_stat6, ↓e_stat7, ↓e_spec1, ↓e_spec2, ↓e_spec3, ↓e_spec4, ↓e_spec5, ↓e_strlen, ↓e_charAt, ↓e_copy, ↓e_iret0, ↓e_iret1, ↓e_lret, ↓e_aret, ↓e_vret, zIsI_int, zIsL_long, zIsA_ref, zInt_int, true_and, and_true, ↓reduceIte, zGet, zSet, zSet2, zEnt, zWid, Value.category, List.map_cons, List.map_nil, List.sum_cons, List.sum_nil, List.replicate, Option.toList, Nat.reduceAdd, Nat.reduceSub, Nat.reduceMul, Nat.reduceLeDiff, Nat.reduceEqDiff, Nat.reduceLT, List.cons_append, List.nil_append, true_or, or_true, or_false, false_or, nI_ltI, nI_leI, nI_eq, nI_clamp, zIn_nI, bI_0, nI_add, nI_mul, nI_or, nI_and, nI_shl1, nI_bit, ↓pk_rem, pk_div, Nat.lt_irrefl, Nat.not_lt_zero, reduceCtorEq, Wk.k, Wk.r5, Wk.k3, W2, hi2, i20, su, lt, h]
        rfl
      · simp (disch := omega) only [L_137_21, zt_137_21, ↓e_iconst0, ↓e_iconst1, ↓e_bipush0, ↓e_bipush1, ↓e_sipush0, ↓e_sipush1, ↓e_ldc0, ↓e_ldc1, ↓e_ldc_w0, ↓e_ldc_w1, ↓e_ldc2, ↓e_lconst0, ↓e_lconst1, ↓e_ldc2_w0, ↓e_ldc2_w1, ↓e_iload, ↓e_iload_n, ↓e_istore, ↓e_istore_n, ↓e_lload, ↓e_lload_n, ↓e_lstore, ↓e_lstore_n, ↓e_aload, ↓e_aload_n, ↓e_astore, ↓e_astore_n, ↓e_iinc0, ↓e_iinc1, ↓e_iadd, ↓e_isub, ↓e_imul, ↓e_iand, ↓e_ior, ↓e_ixor, ↓e_ishl, ↓e_ishr, ↓e_iushr, ↓e_ladd, ↓e_lsub, ↓e_lmul, ↓e_land, ↓e_lor, ↓e_idiv, ↓e_irem, ↓e_ldiv, ↓e_lrem, ↓e_lshl, ↓e_lcmp, ↓e_i2l, ↓e_l2i, ↓e_i2b, ↓e_i2s, ↓e_dup_int, ↓e_pop_int, ↓e_dup_ref, ↓e_pop_ref, ↓e_dup2, ↓e_goto, ↓e_nop, ↓e_ifCond_eq, ↓e_if_icmp_eq, ↓e_ifCond_ne, ↓e_if_icmp_ne, ↓e_ifCond_lt, ↓e_if_icmp_lt, ↓e_ifCond_ge, ↓e_if_icmp_ge, ↓e_ifCond_gt, ↓e_if_icmp_gt, ↓e_ifCond_le, ↓e_if_icmp_le, ↓e_tab, ↓e_look, ↓e_get0, ↓e_get1, ↓e_get2, ↓e_get3, ↓e_put0, ↓e_put1, ↓e_put2, ↓e_put3, ↓e_iaload, ↓e_laload, ↓e_baload, ↓e_aaload, ↓e_iastore, ↓e_lastore, ↓e_bastore, ↓e_aastore, ↓e_alen, ↓e_new, ↓e_newarray, ↓e_anewarray, ↓e_objinit, ↓e_virt1, ↓e_virt2, ↓e_virt3, ↓e_virt4, ↓e_virt5, ↓e_virt6, ↓e_virt7, ↓e_stat0, ↓e_stat1, ↓e_stat2, ↓e_stat3, ↓e_stat4, ↓e_stat5, ↓e_stat6, ↓e_stat7, ↓e_spec1, ↓e_spec2, ↓e_spec3, ↓e_spec4, ↓e_spec5, ↓e_strlen, ↓e_charAt, ↓e_copy, ↓e_iret0, ↓e_iret1, ↓e_lret, ↓e_aret, ↓e_vret, zIsI_int, zIsL_long, zIsA_ref, zInt_int, true_and, and_true, ↓reduceIte, zGet, zSet, zSet2, zEnt, zWid, Value.category, List.map_cons, List.map_nil, List.sum_cons, List.sum_nil, List.replicate, Option.toList, Nat.reduceAdd, Nat.reduceSub, Nat.reduceMul, Nat.reduceLeDiff, Nat.reduceEqDiff, Nat.reduceLT, List.cons_append, List.nil_append, true_or, or_true, or_false, false_or, nI_ltI, nI_leI, nI_eq, nI_clamp, zIn_nI, bI_0, nI_add, nI_mul, nI_or, nI_and, nI_shl1, nI_bit, ↓pk_rem, pk_div, Nat.lt_irrefl, Nat.not_lt_zero, reduceCtorEq, Wk.k, Wk.r5, Wk.k3, W2, hi2, i20, su, lt, h, ih]
  rw [E_137]
  simp (disch := omega) only [L_137_0, zt_137_0, ↓e_iconst0, ↓e_iconst1, ↓e_bipush0, ↓e_bipush1, ↓e_sipush0, ↓e_sipush1, ↓e_ldc0, ↓e_ldc1, ↓e_ldc_w0, ↓e_ldc_w1, ↓e_ldc2, ↓e_lconst0, ↓e_lconst1, ↓e_ldc2_w0, ↓e_ldc2_w1, ↓e_iload, ↓e_iload_n, ↓e_istore, ↓e_istore_n, ↓e_lload, ↓e_lload_n, ↓e_lstore, ↓e_lstore_n, ↓e_aload, ↓e_aload_n, ↓e_astore, ↓e_astore_n, ↓e_iinc0, ↓e_iinc1, ↓e_iadd, ↓e_isub, ↓e_imul, ↓e_iand, ↓e_ior, ↓e_ixor, ↓e_ishl, ↓e_ishr, ↓e_iushr, ↓e_ladd, ↓e_lsub, ↓e_lmul, ↓e_land, ↓e_lor, ↓e_idiv, ↓e_irem, ↓e_ldiv, ↓e_lrem, ↓e_lshl, ↓e_lcmp, ↓e_i2l, ↓e_l2i, ↓e_i2b, ↓e_i2s, ↓e_dup_int, ↓e_pop_int, ↓e_dup_ref, ↓e_pop_ref, ↓e_dup2, ↓e_goto, ↓e_nop, ↓e_ifCond_eq, ↓e_if_icmp_eq, ↓e_ifCond_ne, ↓e_if_icmp_ne, ↓e_ifCond_lt, ↓e_if_icmp_lt, ↓e_ifCond_ge, ↓e_if_icmp_ge, ↓e_ifCond_gt, ↓e_if_icmp_gt, ↓e_ifCond_le, ↓e_if_icmp_le, ↓e_tab, ↓e_look, ↓e_get0, ↓e_get1, ↓e_get2, ↓e_get3, ↓e_put0, ↓e_put1, ↓e_put2, ↓e_put3, ↓e_iaload, ↓e_laload, ↓e_baload, ↓e_aaload, ↓e_iastore, ↓e_lastore, ↓e_bastore, ↓e_aastore, ↓e_alen, ↓e_new, ↓e_newarray, ↓e_anewarray, ↓e_objinit, ↓e_virt1, ↓e_virt2, ↓e_virt3, ↓e_virt4, ↓e_virt5, ↓e_virt6, ↓e_virt7, ↓e_stat0, ↓e_stat1, ↓e_stat2, ↓e_stat3, ↓e_stat4, ↓e_stat5, ↓e_stat6, ↓e_stat7, ↓e_spec1, ↓e_spec2, ↓e_spec3, ↓e_spec4, ↓e_spec5, ↓e_strlen, ↓e_charAt, ↓e_copy, ↓e_iret0, ↓e_iret1, ↓e_lret, ↓e_aret, ↓e_vret, zIsI_int, zIsL_long, zIsA_ref, zInt_int, true_and, and_true, ↓reduceIte, zGet, zSet, zSet2, zEnt, zWid, Value.category, List.map_cons, List.map_nil, List.sum_cons, List.sum_nil, List.replicate, Option.toList, Nat.reduceAdd, Nat.reduceSub, Nat.reduceMul, Nat.reduceLeDiff, Nat.reduceEqDiff, Nat.reduceLT, List.cons_append, List.nil_append, true_or, or_true, or_false, false_or, nI_ltI, nI_leI, nI_eq, nI_clamp, zIn_nI, bI_0, nI_add, nI_mul, nI_or, nI_and, nI_shl1, nI_bit, ↓pk_rem, pk_div, Nat.lt_irrefl, Nat.not_lt_zero, reduceCtorEq, st L.length 0 rfl]
end WGX
