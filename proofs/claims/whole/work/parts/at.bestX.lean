/-! BEST, the class: best and bestIn -/
def sk5 (σ : MS) (a w l : Nat) : MS := setI (cpA (cpA (setI (setR σ 103 1 a) 103 11 (nI w)) (a + 8) 111 20) (a + 10) 112 64) 103 3 (nI l)
def Ofc.qBest (A : Ofc) : Int32 × Int32 := qA (nI A.bst)
def Ofc.qBestIn (A : Ofc) (c : Int32) : Int32 × Int32 := match ix c (A.wide * A.high) with
  | none => qR 1
  | some c => if A.occ c = true then qA (nI (A.bsX.2 (ct A.occ c))) else qR 6
section BEX
variable {d : Nat} {σ τ ρ : MS} {a : Nat} {A : Ofc} {K : Option Value → MS → Prop}
theorem RBk.ag2 {p : Nat → Prop} (B : RBk σ) (f : Ag p σ τ) (h : ∀ j, j ≠ 1 → sR τ 103 j = sR σ 103 j) : RBk τ := by
  refine RBk.mk ((f.K _).trans B.k) ((h _ (by decide)).trans B.r4) ((h _ (by decide)).trans B.r5) ((h _ (by decide)).trans B.r6) ((h _ (by decide)).trans B.r7) ((h _ (by decide)).trans B.r8) ((h _ (by decide)).trans B.r9) ((h _ (by decide)).trans B.r10) ((h _ (by decide)).trans B.r12) ((h _ (by decide)).trans B.r13) ((f.K _).trans B.k104) ((f.K _).trans B.k105) ((f.K _).trans B.k106) ((f.K _).trans B.k107) ((f.K _).trans B.k108) ((f.K _).trans B.k109) ((f.K _).trans B.k110) ((f.K _).trans B.k111) ((f.K _).trans B.k112)
theorem sk5_ag (w l : Nat) : Ag (fun b => 103 ≤ b ∧ b ≤ 112) σ (sk5 σ a w l) := by
  unfold sk5 cpA
  exact ((((Ag.rf.setR (p := fun b => 103 ≤ b ∧ b ≤ 112) (by omega) (.inr (.inr (.inr (.inl rfl))))).setI (by omega)).upA (by omega)).upA (by omega)).setI (by omega)
theorem sk5_R (w l j : Nat) (h : j ≠ 1) : sR (sk5 σ a w l) 103 j = sR σ 103 j := by
  unfold sk5 cpA
  rw [sR_setI, sR_upA, sR_upA, sR_setI, sR_setR, if_neg (fun x => h x.2)]
theorem sk5_R1 (w l : Nat) : sR (sk5 σ a w l) 103 1 = a := by
  unfold sk5 cpA
  rw [sR_setI, sR_upA, sR_upA, sR_setI, sR_setR, if_pos ⟨rfl, rfl⟩]
theorem sk5_108 (w l j : Nat) : sI (sk5 σ a w l) 108 j = sI σ 108 j := by
  unfold sk5 cpA
  rw [sI_setI, if_neg (by omega), sI_upA, if_neg (by omega), sI_upA, if_neg (by omega), sI_setI, if_neg (by omega), sI_setR]
theorem sk5_3 (w l : Nat) : sI (sk5 σ a w l) 103 3 = nI l := by
  unfold sk5
  rw [sI_setI, if_pos ⟨rfl, rfl⟩]
theorem sk5_11 (w l : Nat) : sI (sk5 σ a w l) 103 11 = nI w := by
  unfold sk5 cpA
  rw [sI_setI, if_neg (by omega), sI_upA, if_neg (by omega), sI_upA, if_neg (by omega), sI_setI, if_pos ⟨rfl, rfl⟩]
theorem sk5_111 (ha : a + 11 < 103) (w l : Nat) {j : Nat} (hj : j < 20) : sI (sk5 σ a w l) 111 j = sI σ (a + 8) j := by
  unfold sk5 cpA
  rw [sI_setI, if_neg (by omega), sI_upA, if_neg (by omega), sI_upA, if_pos rfl, if_pos hj, sI_setI, if_neg (by omega), sI_setR]
theorem sk5_112 (ha : a + 11 < 103) (w l : Nat) {j : Nat} (hj : j < 64) : sI (sk5 σ a w l) 112 j = sI σ (a + 10) j := by
  unfold sk5 cpA
  rw [sI_setI, if_neg (by omega), sI_upA, if_pos rfl, if_pos hj, sI_upA, if_neg (by omega), sI_setI, if_neg (by omega), sI_setR]
theorem c_seek (B : RBk σ) (C : BCa σ) (H : ROff σ a A) (O : OfcOk A) (ha : a + 11 < 103) :
   ∃ τ, Ag (fun b => 103 ≤ b ∧ b ≤ 112) σ τ ∧ RBk τ ∧ BCa τ ∧ BSo τ A ∧ ∀ K, zC (d + 12) 1 [.ref 103, .ref a] σ K = K none τ := by
  have h8 := O.p8
  have w1 := O.w1
  have w5 := O.w5
  have hN8 := N8 O
  have ci := fun (K : Option Value → MS → Prop) => c_isAsBefore (d := d + 10) (K := K) B H
  cases hs : sameB σ a A.wide with
  | true =>
    rw [hs] at ci
    refine ⟨σ, Ag.rf, B, C, ?_, fun K => ?_⟩
    · unfold sameB at hs
      rw [Bool.and_eq_true, Bool.and_eq_true, decide_eq_true_eq, allEq_iff, allEq_iff] at hs
      obtain ⟨⟨s1, s2⟩, s3⟩ := hs
      rcases C.2 with c0 | ⟨A', O', S⟩
      · rw [s1, nI_eq (by omega) (by omega)] at c0
        omega
      · exact S.same O O' s1 (fun c hc => (s2 c (Nat.zero_le _) (by omega)).trans (H.a8 c hc)) (fun p q hp hq => (s3 _ (Nat.zero_le _) (by omega)).trans (H.a10 p q hp hq))
    · rw [E_1]
      simp (disch := omega) only [L_1_0, zt_1_0, L_1_9, zt_1_9, ↓e_iconst0, ↓e_iconst1, ↓e_bipush0, ↓e_bipush1, ↓e_sipush0, ↓e_sipush1, ↓e_ldc0, ↓e_ldc1, ↓e_ldc_w0, ↓e_ldc_w1, ↓e_ldc2, ↓e_lconst0, ↓e_lconst1, ↓e_ldc2_w0, ↓e_ldc2_w1, ↓e_iload, ↓e_iload_n, ↓e_istore, ↓e_istore_n, ↓e_lload, ↓e_lload_n, ↓e_lstore, ↓e_lstore_n, ↓e_aload, ↓e_aload_n, ↓e_astore, ↓e_astore_n, ↓e_iinc0, ↓e_iinc1, ↓e_iadd, ↓e_isub, ↓e_imul, ↓e_iand, ↓e_ior, ↓e_ixor, ↓e_ishl, ↓e_ishr, ↓e_iushr, ↓e_ladd, ↓e_lsub, ↓e_lmul, ↓e_land, ↓e_lor, ↓e_idiv, ↓e_irem, ↓e_ldiv, ↓e_lrem, ↓e_lshl, ↓e_lcmp, ↓e_i2l, ↓e_l2i, ↓e_i2b, ↓e_i2s, ↓e_dup_int, ↓e_pop_int, ↓e_dup_ref, ↓e_pop_ref, ↓e_dup2, ↓e_goto, ↓e_nop, ↓e_ifCond_eq, ↓e_if_icmp_eq, ↓e_ifCond_ne, ↓e_if_icmp_ne, ↓e_ifCond_lt, ↓e_if_icmp_lt, ↓e_ifCond_ge, ↓e_if_icmp_ge, ↓e_ifCond_gt, ↓e_if_icmp_gt, ↓e_ifCond_le, ↓e_if_icmp_le, ↓e_tab, ↓e_look, ↓e_get0, ↓e_get1, ↓e_get2, ↓e_get3, ↓e_put0, ↓e_put1, ↓e_put2, ↓e_put3, ↓e_iaload, ↓e_laload, ↓e_baload, ↓e_aaload, ↓e_iastore, ↓e_lastore, ↓e_bastore, ↓e_aastore, ↓e_alen, ↓e_new, ↓e_newarray, ↓e_anewarray, ↓e_objinit, ↓e_virt1, ↓e_virt2, ↓e_virt3, ↓e_virt4, ↓e_virt5, ↓e_virt6, ↓e_virt7, ↓e_stat0, ↓e_stat1, ↓e_stat2, ↓e_stat3, ↓e_stat4, ↓e_stat5, ↓e_stat6, ↓e_stat7, ↓e_spec1, ↓e_spec2, ↓e_spec3, ↓e_spec4, ↓e_spec5, ↓e_strlen, ↓e_charAt, ↓e_copy, ↓e_iret0, ↓e_iret1, ↓e_lret, ↓e_aret, ↓e_vret, zIsI_int, zIsL_long, zIsA_ref, zInt_int, true_and, and_true, ↓reduceIte, zGet, zSet, zSet2, zEnt, zWid, Value.category, List.map_cons, List.map_nil, List.sum_cons, List.sum_nil, List.replicate, Option.toList, Nat.reduceAdd, Nat.reduceSub, Nat.reduceMul, Nat.reduceLeDiff, Nat.reduceEqDiff, Nat.reduceLT, List.cons_append, List.nil_append, true_or, or_true, or_false, false_or, nI_ltI, nI_leI, nI_eq, nI_clamp, zIn_nI, bI_0, nI_add, nI_mul, nI_or, nI_and, nI_shl1, nI_bit, ↓pk_rem, pk_div, Nat.lt_irrefl, Nat.not_lt_zero, reduceCtorEq, B.k, ↓ci, show bI true = nI 1 from rfl]
  | false =>
    rw [hs] at ci
    have f5 := sk5_ag (σ := σ) (a := a) A.wide A.lying
    have B5 : RBk (sk5 σ a A.wide A.lying) := B.ag2 f5 (fun j hj => sk5_R _ _ j hj)
    have H5 : ROff (sk5 σ a A.wide A.lying) a A := H.ag f5 (fun b _ _ => by omega)
    have r5 := sk5_R1 (σ := σ) (a := a) A.wide A.lying
    obtain ⟨τ1, g1, n1, rw1, cf1, c1⟩ := c_listCells (d := d + 8) B5 r5 H5 O ha
    have B1 := B5.ag g1
    have H1 := g1.off H5 ha
    have r1 := (g1.2.1 1).trans r5
    have m1 : sI τ1 103 3 = nI A.lying := (g1.2.2 103 3 (by unfold qLs; omega)).trans (sk5_3 _ _)
    obtain ⟨f0, fb0, h0⟩ := C.1
    obtain ⟨τ2, n, f, g2, dsc, hz, f72, hc, u2, c2⟩ := c_addUp (d := d + 8) B1 r1 m1 H1 O ha f0 fb0 (fun j hj => (g1.2.2 108 j (by unfold qLs; omega)).trans ((sk5_108 _ _ j).trans (h0 j hj)))
    have B2 := B1.ag g2
    have H2 := g2.off H1 ha
    have r2 := (g2.2.1 1).trans r1
    have m2 := (g2.2.2 103 3 (by unfold qAd; omega)).trans m1
    have f6 : FB (fun b j => b = 103 ∧ j = 0) τ2 (setI τ2 103 0 (nI A.whole - nI 1)) := FB.rf.i (by omega) ⟨rfl, rfl⟩
    have y6 : ∀ b j, ¬ (b = 103 ∧ j = 0) → b ≠ 108 → ¬ (b = 103 ∧ j = 2) → ¬ (104 ≤ b ∧ b ≤ 107) → sI (setI τ2 103 0 (nI A.whole - nI 1)) b j = sI (sk5 σ a A.wide A.lying) b j := fun b j h1 h2 h3 h4 => (f6.2.2 b j h1).trans ((g2.2.2 b j h2).trans (g1.2.2 b j (by unfold qLs; omega)))
    have al6 : ∀ p q, p < A.np → q < A.np → sI (setI τ2 103 0 (nI A.whole - nI 1)) 112 (p * 8 + q) = nI (A.like p q) := fun p q hp hq => (y6 112 _ (by omega) (by omega) (by omega) (by omega)).trans ((sk5_112 ha _ _ (by omega)).trans (H.a10 p q hp hq))
    have S : LfS (setI τ2 103 0 (nI A.whole - nI 1)) A f := LfS.mk (B2.ag f6) ((f6.2.2 103 2 (by omega)).trans ((g2.2.2 103 2 (by unfold qAd; omega)).trans n1)) (fun k hk => ⟨(f6.2.2 105 k (by omega)).trans ((g2.2.2 105 k (by unfold qAd; omega)).trans (rw1 k hk).2.1), (f6.2.2 106 k (by omega)).trans ((g2.2.2 106 k (by unfold qAd; omega)).trans (rw1 k hk).2.2)⟩) (fun k hk => (f6.2.2 107 k (by omega)).trans ((g2.2.2 107 k (by unfold qAd; omega)).trans (cf1 k hk))) (fun k hk => (f6.2.2 108 k (by omega)).trans (u2 k hk)) al6
    have wl := whole_le O
    obtain ⟨τ3, g3, _, R3, c3⟩ := c_layFrom (d := d + 8 - A.N) O f72 A.whole A.N 0 (fun _ => 0) A.lie 0 A.lying (A.whole, fun _ => 0) (setI τ2 103 0 (nI A.whole - nI 1)) (by omega) S (fun i hi => absurd hi (Nat.not_lt_zero i)) (lying256 O) (fun p _ => lying_lie O p) (fun p hp => lie_np O hp) (Nat.zero_le _) ⟨by rw [sI_setI, if_pos ⟨rfl, rfl⟩], by show A.whole < 2 ^ 30; omega, .inl (Nat.le_refl _)⟩
    rw [srP_bsX O dsc hz f72 hc] at R3
    obtain ⟨R1, R2, R3⟩ := R3
    have ge := bsX_ge O
    have y3 : ∀ b j, ¬ (b = 103 ∧ j = 0) → b ≠ 109 → b ≠ 110 → b ≠ 108 → ¬ (b = 103 ∧ j = 2) → ¬ (104 ≤ b ∧ b ≤ 107) → sI τ3 b j = sI (sk5 σ a A.wide A.lying) b j := fun b j h1 h2 h3 h4 h5 h6 => (g3.2.2 b j (by unfold qLf; omega)).trans (y6 b j h1 h4 h5 h6)
    have S3 := S.fb g3
    have SO : BSo τ3 A := by
      refine BSo.mk ?_ ?_ S3.al ?_ S3.m2 ?_ ?_
      · exact (y3 103 11 (by omega) (by omega) (by omega) (by omega) (by omega) (by omega)).trans (sk5_11 _ _)
      · exact fun c hc => (y3 111 c (by omega) (by omega) (by omega) (by omega) (by omega) (by omega)).trans ((sk5_111 ha _ _ hc).trans (H.a8 c hc))
      · rw [R1, nI_sub (by omega)]
        rfl
      · exact fun k hk => (g3.2.2 104 k (by unfold qLf; omega)).trans ((f6.2.2 104 k (by omega)).trans ((g2.2.2 104 k (by unfold qAd; omega)).trans (rw1 k hk).1))
      · rcases R3 with R3 | R3
        · omega
        · exact R3
    refine ⟨τ3, (((f5.tr g1.1).tr g2.1).tr f6.1).tr g3.1, S3.b, ⟨⟨fun j => if j ≤ 28 then sm j (fun i => f (i + 1)) else 0, fun j => ?_, fun j hj => ?_⟩, .inr ⟨A, O, SO⟩⟩, SO, fun K => ?_⟩
    · dsimp only
      split
      · have := u_le f72 j; omega
      · omega
    · dsimp only
      rw [if_pos (by omega)]
      exact S3.u j (by omega)
    · have x1 : sR (setR σ 103 1 a) 103 1 = a := by rw [sR_setR, if_pos ⟨rfl, rfl⟩]
      have x12 : sR (setR σ 103 1 a) 103 12 = 111 := by rw [sR_setR, if_neg (by omega)]; exact B.r12
      have x13 : sR (setR σ 103 1 a) 103 13 = 112 := by rw [sR_setR, if_neg (by omega)]; exact B.r13
      have xa : ∀ j, sR (setR σ 103 1 a) a j = sR σ a j := fun j => by rw [sR_setR, if_neg (by omega)]
      have n0 : ¬ (nI 0 : Int32) < 0 := by decide
      have n20 : ¬ (nI 20 : Int32) < 0 := by decide
      have n64 : ¬ (nI 64 : Int32) < 0 := by decide
      have f4 : Ag (fun b => 103 ≤ b ∧ b ≤ 112) σ (cpA (cpA (setI (setR σ 103 1 a) 103 11 (nI A.wide)) (a + 8) 111 20) (a + 10) 112 64) := by
        unfold cpA
        exact (((Ag.rf.setR (p := fun b => 103 ≤ b ∧ b ≤ 112) (by omega) (.inr (.inr (.inr (.inl rfl))))).setI (by omega)).upA (by omega)).upA (by omega)
      have H4 : ROff (cpA (cpA (setI (setR σ 103 1 a) 103 11 (nI A.wide)) (a + 8) 111 20) (a + 10) 112 64) a A := H.ag f4 (fun b _ _ => by omega)
      have cl := fun (K : Option Value → MS → Prop) => c_lyingSet (d := d + 9) (K := K) H4 O
      have cw := fun (K : Option Value → MS → Prop) => c_wholeLikeness (d := d + 8) (K := K) H2 O
      have B6 := S.b
      have r6 : sR (setI τ2 103 0 (nI A.whole - nI 1)) 103 1 = a := r2
      have q6 : sI (setI τ2 103 0 (nI A.whole - nI 1)) 103 3 = nI A.lying := by rw [sI_setI, if_neg (by omega)]; exact m2
      rw [show d + 8 - A.N + A.N + 3 = d + 11 from by omega] at c3
      have k1 := B1.k
      have k2 := B2.k
      have k6 := B6.k
      have k5 := B5.k
      unfold sk5 at c1
      rw [E_1]
      simp (disch := omega) only [L_1_0, zt_1_0, L_1_9, zt_1_9, ↓e_iconst0, ↓e_iconst1, ↓e_bipush0, ↓e_bipush1, ↓e_sipush0, ↓e_sipush1, ↓e_ldc0, ↓e_ldc1, ↓e_ldc_w0, ↓e_ldc_w1, ↓e_ldc2, ↓e_lconst0, ↓e_lconst1, ↓e_ldc2_w0, ↓e_ldc2_w1, ↓e_iload, ↓e_iload_n, ↓e_istore, ↓e_istore_n, ↓e_lload, ↓e_lload_n, ↓e_lstore, ↓e_lstore_n, ↓e_aload, ↓e_aload_n, ↓e_astore, ↓e_astore_n, ↓e_iinc0, ↓e_iinc1, ↓e_iadd, ↓e_isub, ↓e_imul, ↓e_iand, ↓e_ior, ↓e_ixor, ↓e_ishl, ↓e_ishr, ↓e_iushr, ↓e_ladd, ↓e_lsub, ↓e_lmul, ↓e_land, ↓e_lor, ↓e_idiv, ↓e_irem, ↓e_ldiv, ↓e_lrem, ↓e_lshl, ↓e_lcmp, ↓e_i2l, ↓e_l2i, ↓e_i2b, ↓e_i2s, ↓e_dup_int, ↓e_pop_int, ↓e_dup_ref, ↓e_pop_ref, ↓e_dup2, ↓e_goto, ↓e_nop, ↓e_ifCond_eq, ↓e_if_icmp_eq, ↓e_ifCond_ne, ↓e_if_icmp_ne, ↓e_ifCond_lt, ↓e_if_icmp_lt, ↓e_ifCond_ge, ↓e_if_icmp_ge, ↓e_ifCond_gt, ↓e_if_icmp_gt, ↓e_ifCond_le, ↓e_if_icmp_le, ↓e_tab, ↓e_look, ↓e_get0, ↓e_get1, ↓e_get2, ↓e_get3, ↓e_put0, ↓e_put1, ↓e_put2, ↓e_put3, ↓e_iaload, ↓e_laload, ↓e_baload, ↓e_aaload, ↓e_iastore, ↓e_lastore, ↓e_bastore, ↓e_aastore, ↓e_alen, ↓e_new, ↓e_newarray, ↓e_anewarray, ↓e_objinit, ↓e_virt1, ↓e_virt2, ↓e_virt3, ↓e_virt4, ↓e_virt5, ↓e_virt6, ↓e_virt7, ↓e_stat0, ↓e_stat1, ↓e_stat2, ↓e_stat3, ↓e_stat4, ↓e_stat5, ↓e_stat6, ↓e_stat7, ↓e_spec1, ↓e_spec2, ↓e_spec3, ↓e_spec4, ↓e_spec5, ↓e_strlen, ↓e_charAt, ↓e_copy, ↓e_iret0, ↓e_iret1, ↓e_lret, ↓e_aret, ↓e_vret, zIsI_int, zIsL_long, zIsA_ref, zInt_int, true_and, and_true, ↓reduceIte, zGet, zSet, zSet2, zEnt, zWid, Value.category, List.map_cons, List.map_nil, List.sum_cons, List.sum_nil, List.replicate, Option.toList, Nat.reduceAdd, Nat.reduceSub, Nat.reduceMul, Nat.reduceLeDiff, Nat.reduceEqDiff, Nat.reduceLT, List.cons_append, List.nil_append, true_or, or_true, or_false, false_or, H.k, H.i0, H.i1, H.i2, H.i3, H.i4, H.i5, H.i6, H.i7, H.r8, H.r9, H.r10, H.r11, H.r12, H.r13, H.r14, H.r15, H.r16, H.r17, H.r18, H.k1, H.k2, H.k3, H.k4, H.k5, H.k6, H.k7, H.k8, H.k9, H.k10, H.k11, nI_ltI, nI_leI, nI_eq, nI_clamp, zIn_nI, bI_0, nI_add, nI_mul, nI_or, nI_and, nI_shl1, nI_bit, ↓pk_rem, pk_div, Nat.lt_irrefl, Nat.not_lt_zero, reduceCtorEq, ↓ci, show bI false = nI 0 from rfl, B.k, sK_setI, sR_setI, sL_setI, sK_setR, sK_cpA, sI_setR, sR_cpA, x1, x12, x13, xa, n0, n20, n64, not_false_eq_true, Nat.zero_add, Nat.le_refl, cpI_A, and_self, B.k111, B.k112, ↓cl, ↓c1, k1, r1, ↓c2, k2, r2, H2.k, ↓cw, k6, r6, q6, ↓c3]
theorem c_paperFor (B : RBk σ) (S : BSo σ A) (O : OfcOk A) {c : Nat} (ho : A.occ c = true) :
   zC (d + 1) 3 [.ref 103, .int (nI c)] σ K = K (some (.int (nI (A.bsX.2 (ct A.occ c))))) σ := by
  have h20 := cells20 O
  have hN8 := N8 O
  obtain ⟨c1, c2⟩ := cc_of O ho
  have hc := occ_c O ho
  have st : ∀ (m i : Nat), m + i = ct A.occ c → zX d 3 2 [.ref 103, .int (nI c), .int (nI i)] [] σ K = K (some (.int (nI (A.bsX.2 (ct A.occ c))))) σ := by
    intro m
    induction m with
    | zero =>
      intro i hi
      have hi : i = ct A.occ c := by omega
      subst hi
      have e := S.c _ c2
      rw [c1] at e
      have e2 := S.w _ c2
      have i8 : ct A.occ c < 8 := by omega
      rw [L_3_2, zt_3_2]
      simp (disch := omega) only [↓e_iconst0, ↓e_iconst1, ↓e_bipush0, ↓e_bipush1, ↓e_sipush0, ↓e_sipush1, ↓e_ldc0, ↓e_ldc1, ↓e_ldc_w0, ↓e_ldc_w1, ↓e_ldc2, ↓e_lconst0, ↓e_lconst1, ↓e_ldc2_w0, ↓e_ldc2_w1, ↓e_iload, ↓e_iload_n, ↓e_istore, ↓e_istore_n, ↓e_lload, ↓e_lload_n, ↓e_lstore, ↓e_lstore_n, ↓e_aload, ↓e_aload_n, ↓e_astore, ↓e_astore_n, ↓e_iinc0, ↓e_iinc1, ↓e_iadd, ↓e_isub, ↓e_imul, ↓e_iand, ↓e_ior, ↓e_ixor, ↓e_ishl, ↓e_ishr, ↓e_iushr, ↓e_ladd, ↓e_lsub, ↓e_lmul, ↓e_land, ↓e_lor, ↓e_idiv, ↓e_irem, ↓e_ldiv, ↓e_lrem, ↓e_lshl, ↓e_lcmp, ↓e_i2l, ↓e_l2i, ↓e_i2b, ↓e_i2s, ↓e_dup_int, ↓e_pop_int, ↓e_dup_ref, ↓e_pop_ref, ↓e_dup2, ↓e_goto, ↓e_nop, ↓e_ifCond_eq, ↓e_if_icmp_eq, ↓e_ifCond_ne, ↓e_if_icmp_ne, ↓e_ifCond_lt, ↓e_if_icmp_lt, ↓e_ifCond_ge, ↓e_if_icmp_ge, ↓e_ifCond_gt, ↓e_if_icmp_gt, ↓e_ifCond_le, ↓e_if_icmp_le, ↓e_tab, ↓e_look, ↓e_get0, ↓e_get1, ↓e_get2, ↓e_get3, ↓e_put0, ↓e_put1, ↓e_put2, ↓e_put3, ↓e_iaload, ↓e_laload, ↓e_baload, ↓e_aaload, ↓e_iastore, ↓e_lastore, ↓e_bastore, ↓e_aastore, ↓e_alen, ↓e_new, ↓e_newarray, ↓e_anewarray, ↓e_objinit, ↓e_virt1, ↓e_virt2, ↓e_virt3, ↓e_virt4, ↓e_virt5, ↓e_virt6, ↓e_virt7, ↓e_stat0, ↓e_stat1, ↓e_stat2, ↓e_stat3, ↓e_stat4, ↓e_stat5, ↓e_stat6, ↓e_stat7, ↓e_spec1, ↓e_spec2, ↓e_spec3, ↓e_spec4, ↓e_spec5, ↓e_strlen, ↓e_charAt, ↓e_copy, ↓e_iret0, ↓e_iret1, ↓e_lret, ↓e_aret, ↓e_vret, zIsI_int, zIsL_long, zIsA_ref, zInt_int, true_and, and_true, ↓reduceIte, zGet, zSet, zSet2, zEnt, zWid, Value.category, List.map_cons, List.map_nil, List.sum_cons, List.sum_nil, List.replicate, Option.toList, Nat.reduceAdd, Nat.reduceSub, Nat.reduceMul, Nat.reduceLeDiff, Nat.reduceEqDiff, Nat.reduceLT, List.cons_append, List.nil_append, true_or, or_true, or_false, false_or, nI_ltI, nI_leI, nI_eq, nI_clamp, zIn_nI, bI_0, nI_add, nI_mul, nI_or, nI_and, nI_shl1, nI_bit, ↓pk_rem, pk_div, Nat.lt_irrefl, Nat.not_lt_zero, reduceCtorEq, B.k, B.r4, B.r5, B.r6, B.r7, B.r8, B.r9, B.r10, B.r12, B.r13, B.k104, B.k105, B.k106, B.k107, B.k108, B.k109, B.k110, B.k111, B.k112, S.n, c2, i8, e, e2]
    | succ m ih =>
      intro i hi
      have iN : i < A.N := by omega
      have i8 : i < 8 := by omega
      have e := S.c i iN
      have lt := (cc_is O iN).1
      have hne : ¬ A.cc i = c := fun h => by
        have := (cc_is O iN).2.2.1
        rw [h] at this
        omega
      have ih := ih (i + 1) (by omega)
      rw [L_3_2, zt_3_2]
      simp (disch := omega) only [L_3_33, zt_3_33, ↓e_iconst0, ↓e_iconst1, ↓e_bipush0, ↓e_bipush1, ↓e_sipush0, ↓e_sipush1, ↓e_ldc0, ↓e_ldc1, ↓e_ldc_w0, ↓e_ldc_w1, ↓e_ldc2, ↓e_lconst0, ↓e_lconst1, ↓e_ldc2_w0, ↓e_ldc2_w1, ↓e_iload, ↓e_iload_n, ↓e_istore, ↓e_istore_n, ↓e_lload, ↓e_lload_n, ↓e_lstore, ↓e_lstore_n, ↓e_aload, ↓e_aload_n, ↓e_astore, ↓e_astore_n, ↓e_iinc0, ↓e_iinc1, ↓e_iadd, ↓e_isub, ↓e_imul, ↓e_iand, ↓e_ior, ↓e_ixor, ↓e_ishl, ↓e_ishr, ↓e_iushr, ↓e_ladd, ↓e_lsub, ↓e_lmul, ↓e_land, ↓e_lor, ↓e_idiv, ↓e_irem, ↓e_ldiv, ↓e_lrem, ↓e_lshl, ↓e_lcmp, ↓e_i2l, ↓e_l2i, ↓e_i2b, ↓e_i2s, ↓e_dup_int, ↓e_pop_int, ↓e_dup_ref, ↓e_pop_ref, ↓e_dup2, ↓e_goto, ↓e_nop, ↓e_ifCond_eq, ↓e_if_icmp_eq, ↓e_ifCond_ne, ↓e_if_icmp_ne, ↓e_ifCond_lt, ↓e_if_icmp_lt, ↓e_ifCond_ge, ↓e_if_icmp_ge, ↓e_ifCond_gt, ↓e_if_icmp_gt, ↓e_ifCond_le, ↓e_if_icmp_le, ↓e_tab, ↓e_look, ↓e_get0, ↓e_get1, ↓e_get2, ↓e_get3, ↓e_put0, ↓e_put1, ↓e_put2, ↓e_put3, ↓e_iaload, ↓e_laload, ↓e_baload, ↓e_aaload, ↓e_iastore, ↓e_lastore, ↓e_bastore, ↓e_aastore, ↓e_alen, ↓e_new, ↓e_newarray, ↓e_anewarray, ↓e_objinit, ↓e_virt1, ↓e_virt2, ↓e_virt3, ↓e_virt4, ↓e_virt5, ↓e_virt6, ↓e_virt7, ↓e_stat0, ↓e_stat1, ↓e_stat2, ↓e_stat3, ↓e_stat4, ↓e_stat5, ↓e_stat6, ↓e_stat7, ↓e_spec1, ↓e_spec2, ↓e_spec3, ↓e_spec4, ↓e_spec5, ↓e_strlen, ↓e_charAt, ↓e_copy, ↓e_iret0, ↓e_iret1, ↓e_lret, ↓e_aret, ↓e_vret, zIsI_int, zIsL_long, zIsA_ref, zInt_int, true_and, and_true, ↓reduceIte, zGet, zSet, zSet2, zEnt, zWid, Value.category, List.map_cons, List.map_nil, List.sum_cons, List.sum_nil, List.replicate, Option.toList, Nat.reduceAdd, Nat.reduceSub, Nat.reduceMul, Nat.reduceLeDiff, Nat.reduceEqDiff, Nat.reduceLT, List.cons_append, List.nil_append, true_or, or_true, or_false, false_or, nI_ltI, nI_leI, nI_eq, nI_clamp, zIn_nI, bI_0, nI_add, nI_mul, nI_or, nI_and, nI_shl1, nI_bit, ↓pk_rem, pk_div, Nat.lt_irrefl, Nat.not_lt_zero, reduceCtorEq, B.k, B.r4, B.r5, B.r6, B.r7, B.r8, B.r9, B.r10, B.r12, B.r13, B.k104, B.k105, B.k106, B.k107, B.k108, B.k109, B.k110, B.k111, B.k112, S.n, iN, i8, e, hne, ih]
  rw [E_3]
  simp (disch := omega) only [L_3_0, zt_3_0, ↓e_iconst0, ↓e_iconst1, ↓e_bipush0, ↓e_bipush1, ↓e_sipush0, ↓e_sipush1, ↓e_ldc0, ↓e_ldc1, ↓e_ldc_w0, ↓e_ldc_w1, ↓e_ldc2, ↓e_lconst0, ↓e_lconst1, ↓e_ldc2_w0, ↓e_ldc2_w1, ↓e_iload, ↓e_iload_n, ↓e_istore, ↓e_istore_n, ↓e_lload, ↓e_lload_n, ↓e_lstore, ↓e_lstore_n, ↓e_aload, ↓e_aload_n, ↓e_astore, ↓e_astore_n, ↓e_iinc0, ↓e_iinc1, ↓e_iadd, ↓e_isub, ↓e_imul, ↓e_iand, ↓e_ior, ↓e_ixor, ↓e_ishl, ↓e_ishr, ↓e_iushr, ↓e_ladd, ↓e_lsub, ↓e_lmul, ↓e_land, ↓e_lor, ↓e_idiv, ↓e_irem, ↓e_ldiv, ↓e_lrem, ↓e_lshl, ↓e_lcmp, ↓e_i2l, ↓e_l2i, ↓e_i2b, ↓e_i2s, ↓e_dup_int, ↓e_pop_int, ↓e_dup_ref, ↓e_pop_ref, ↓e_dup2, ↓e_goto, ↓e_nop, ↓e_ifCond_eq, ↓e_if_icmp_eq, ↓e_ifCond_ne, ↓e_if_icmp_ne, ↓e_ifCond_lt, ↓e_if_icmp_lt, ↓e_ifCond_ge, ↓e_if_icmp_ge, ↓e_ifCond_gt, ↓e_if_icmp_gt, ↓e_ifCond_le, ↓e_if_icmp_le, ↓e_tab, ↓e_look, ↓e_get0, ↓e_get1, ↓e_get2, ↓e_get3, ↓e_put0, ↓e_put1, ↓e_put2, ↓e_put3, ↓e_iaload, ↓e_laload, ↓e_baload, ↓e_aaload, ↓e_iastore, ↓e_lastore, ↓e_bastore, ↓e_aastore, ↓e_alen, ↓e_new, ↓e_newarray, ↓e_anewarray, ↓e_objinit, ↓e_virt1, ↓e_virt2, ↓e_virt3, ↓e_virt4, ↓e_virt5, ↓e_virt6, ↓e_virt7, ↓e_stat0, ↓e_stat1, ↓e_stat2, ↓e_stat3, ↓e_stat4, ↓e_stat5, ↓e_stat6, ↓e_stat7, ↓e_spec1, ↓e_spec2, ↓e_spec3, ↓e_spec4, ↓e_spec5, ↓e_strlen, ↓e_charAt, ↓e_copy, ↓e_iret0, ↓e_iret1, ↓e_lret, ↓e_aret, ↓e_vret, zIsI_int, zIsL_long, zIsA_ref, zInt_int, true_and, and_true, ↓reduceIte, zGet, zSet, zSet2, zEnt, zWid, Value.category, List.map_cons, List.map_nil, List.sum_cons, List.sum_nil, List.replicate, Option.toList, Nat.reduceAdd, Nat.reduceSub, Nat.reduceMul, Nat.reduceLeDiff, Nat.reduceEqDiff, Nat.reduceLT, List.cons_append, List.nil_append, true_or, or_true, or_false, false_or, nI_ltI, nI_leI, nI_eq, nI_clamp, zIn_nI, bI_0, nI_add, nI_mul, nI_or, nI_and, nI_shl1, nI_bit, ↓pk_rem, pk_div, Nat.lt_irrefl, Nat.not_lt_zero, reduceCtorEq, st (ct A.occ c) 0 rfl]
theorem x_best (X : RXk σ a) (B : RBk σ) (C : BCa σ) (H : ROff σ a A) (O : OfcOk A) (ha : 1 < a) (ha2 : a + 11 < 103) :
   ∃ τ, Ag (fun b => 103 ≤ b ∧ b ≤ 112) σ τ ∧ RBk τ ∧ BCa τ ∧ ∀ K, zC (d + 13) 187 [.ref 1] σ K = K (some (.int A.qBest.1)) (setI τ 1 0 A.qBest.2) := by
  obtain ⟨τ, f, B1, C1, S, c⟩ := c_seek (d := d) B C H O ha2
  have X1 := X.ag f (by omega)
  refine ⟨τ, f, B1, C1, fun K => ?_⟩
  unfold Ofc.qBest
  rw [E_187]
  simp (disch := omega) only [L_187_0, zt_187_0, ↓e_iconst0, ↓e_iconst1, ↓e_bipush0, ↓e_bipush1, ↓e_sipush0, ↓e_sipush1, ↓e_ldc0, ↓e_ldc1, ↓e_ldc_w0, ↓e_ldc_w1, ↓e_ldc2, ↓e_lconst0, ↓e_lconst1, ↓e_ldc2_w0, ↓e_ldc2_w1, ↓e_iload, ↓e_iload_n, ↓e_istore, ↓e_istore_n, ↓e_lload, ↓e_lload_n, ↓e_lstore, ↓e_lstore_n, ↓e_aload, ↓e_aload_n, ↓e_astore, ↓e_astore_n, ↓e_iinc0, ↓e_iinc1, ↓e_iadd, ↓e_isub, ↓e_imul, ↓e_iand, ↓e_ior, ↓e_ixor, ↓e_ishl, ↓e_ishr, ↓e_iushr, ↓e_ladd, ↓e_lsub, ↓e_lmul, ↓e_land, ↓e_lor, ↓e_idiv, ↓e_irem, ↓e_ldiv, ↓e_lrem, ↓e_lshl, ↓e_lcmp, ↓e_i2l, ↓e_l2i, ↓e_i2b, ↓e_i2s, ↓e_dup_int, ↓e_pop_int, ↓e_dup_ref, ↓e_pop_ref, ↓e_dup2, ↓e_goto, ↓e_nop, ↓e_ifCond_eq, ↓e_if_icmp_eq, ↓e_ifCond_ne, ↓e_if_icmp_ne, ↓e_ifCond_lt, ↓e_if_icmp_lt, ↓e_ifCond_ge, ↓e_if_icmp_ge, ↓e_ifCond_gt, ↓e_if_icmp_gt, ↓e_ifCond_le, ↓e_if_icmp_le, ↓e_tab, ↓e_look, ↓e_get0, ↓e_get1, ↓e_get2, ↓e_get3, ↓e_put0, ↓e_put1, ↓e_put2, ↓e_put3, ↓e_iaload, ↓e_laload, ↓e_baload, ↓e_aaload, ↓e_iastore, ↓e_lastore, ↓e_bastore, ↓e_aastore, ↓e_alen, ↓e_new, ↓e_newarray, ↓e_anewarray, ↓e_objinit, ↓e_virt1, ↓e_virt2, ↓e_virt3, ↓e_virt4, ↓e_virt5, ↓e_virt6, ↓e_virt7, ↓e_stat0, ↓e_stat1, ↓e_stat2, ↓e_stat3, ↓e_stat4, ↓e_stat5, ↓e_stat6, ↓e_stat7, ↓e_spec1, ↓e_spec2, ↓e_spec3, ↓e_spec4, ↓e_spec5, ↓e_strlen, ↓e_charAt, ↓e_copy, ↓e_iret0, ↓e_iret1, ↓e_lret, ↓e_aret, ↓e_vret, zIsI_int, zIsL_long, zIsA_ref, zInt_int, true_and, and_true, ↓reduceIte, zGet, zSet, zSet2, zEnt, zWid, Value.category, List.map_cons, List.map_nil, List.sum_cons, List.sum_nil, List.replicate, Option.toList, Nat.reduceAdd, Nat.reduceSub, Nat.reduceMul, Nat.reduceLeDiff, Nat.reduceEqDiff, Nat.reduceLT, List.cons_append, List.nil_append, true_or, or_true, or_false, false_or, X.k, X.r6, X.r10, X.r11, X.r12, X.r13, X.r14, X.r15, X.r16, X.r17, X.r18, nI_ltI, nI_leI, nI_eq, nI_clamp, zIn_nI, bI_0, nI_add, nI_mul, nI_or, nI_and, nI_shl1, nI_bit, ↓pk_rem, pk_div, Nat.lt_irrefl, Nat.not_lt_zero, reduceCtorEq, B.k, ↓c, X1.k, X1.r16, B1.k, S.to, ↓x_answer X1]
theorem x_bestIn (X : RXk σ a) (B : RBk σ) (C : BCa σ) (H : ROff σ a A) (O : OfcOk A) (ha : 1 < a) (ha2 : a + 11 < 103) (v : Int32) :
   ∃ τ, Ag (fun b => 103 ≤ b ∧ b ≤ 112) σ τ ∧ RBk τ ∧ BCa τ ∧ ∀ K, zC (d + 13) 188 [.ref 1, .int v] σ K = K (some (.int (A.qBestIn v).1)) (setI τ 1 0 (A.qBestIn v).2) := by
  have h20 := cells20 O
  unfold Ofc.qBestIn
  rcases isI_split v (n := A.wide * A.high) (by omega) with ⟨h, e⟩ | ⟨c, hc, rfl⟩
  · rw [e]
    refine ⟨σ, Ag.rf, B, C, fun K => ?_⟩
    rw [E_188]
    simp (disch := omega) only [L_188_0, zt_188_0, L_188_17, zt_188_17, L_188_37, zt_188_37, ↓e_iconst0, ↓e_iconst1, ↓e_bipush0, ↓e_bipush1, ↓e_sipush0, ↓e_sipush1, ↓e_ldc0, ↓e_ldc1, ↓e_ldc_w0, ↓e_ldc_w1, ↓e_ldc2, ↓e_lconst0, ↓e_lconst1, ↓e_ldc2_w0, ↓e_ldc2_w1, ↓e_iload, ↓e_iload_n, ↓e_istore, ↓e_istore_n, ↓e_lload, ↓e_lload_n, ↓e_lstore, ↓e_lstore_n, ↓e_aload, ↓e_aload_n, ↓e_astore, ↓e_astore_n, ↓e_iinc0, ↓e_iinc1, ↓e_iadd, ↓e_isub, ↓e_imul, ↓e_iand, ↓e_ior, ↓e_ixor, ↓e_ishl, ↓e_ishr, ↓e_iushr, ↓e_ladd, ↓e_lsub, ↓e_lmul, ↓e_land, ↓e_lor, ↓e_idiv, ↓e_irem, ↓e_ldiv, ↓e_lrem, ↓e_lshl, ↓e_lcmp, ↓e_i2l, ↓e_l2i, ↓e_i2b, ↓e_i2s, ↓e_dup_int, ↓e_pop_int, ↓e_dup_ref, ↓e_pop_ref, ↓e_dup2, ↓e_goto, ↓e_nop, ↓e_ifCond_eq, ↓e_if_icmp_eq, ↓e_ifCond_ne, ↓e_if_icmp_ne, ↓e_ifCond_lt, ↓e_if_icmp_lt, ↓e_ifCond_ge, ↓e_if_icmp_ge, ↓e_ifCond_gt, ↓e_if_icmp_gt, ↓e_ifCond_le, ↓e_if_icmp_le, ↓e_tab, ↓e_look, ↓e_get0, ↓e_get1, ↓e_get2, ↓e_get3, ↓e_put0, ↓e_put1, ↓e_put2, ↓e_put3, ↓e_iaload, ↓e_laload, ↓e_baload, ↓e_aaload, ↓e_iastore, ↓e_lastore, ↓e_bastore, ↓e_aastore, ↓e_alen, ↓e_new, ↓e_newarray, ↓e_anewarray, ↓e_objinit, ↓e_virt1, ↓e_virt2, ↓e_virt3, ↓e_virt4, ↓e_virt5, ↓e_virt6, ↓e_virt7, ↓e_stat0, ↓e_stat1, ↓e_stat2, ↓e_stat3, ↓e_stat4, ↓e_stat5, ↓e_stat6, ↓e_stat7, ↓e_spec1, ↓e_spec2, ↓e_spec3, ↓e_spec4, ↓e_spec5, ↓e_strlen, ↓e_charAt, ↓e_copy, ↓e_iret0, ↓e_iret1, ↓e_lret, ↓e_aret, ↓e_vret, zIsI_int, zIsL_long, zIsA_ref, zInt_int, true_and, and_true, ↓reduceIte, zGet, zSet, zSet2, zEnt, zWid, Value.category, List.map_cons, List.map_nil, List.sum_cons, List.sum_nil, List.replicate, Option.toList, Nat.reduceAdd, Nat.reduceSub, Nat.reduceMul, Nat.reduceLeDiff, Nat.reduceEqDiff, Nat.reduceLT, List.cons_append, List.nil_append, true_or, or_true, or_false, false_or, X.k, X.r6, X.r10, X.r11, X.r12, X.r13, X.r14, X.r15, X.r16, X.r17, X.r18, H.k, H.i0, H.i1, H.i2, H.i3, H.i4, H.i5, H.i6, H.i7, H.r8, H.r9, H.r10, H.r11, H.r12, H.r13, H.r14, H.r15, H.r16, H.r17, H.r18, H.k1, H.k2, H.k3, H.k4, H.k5, H.k6, H.k7, H.k8, H.k9, H.k10, H.k11, nI_ltI, nI_leI, nI_eq, nI_clamp, zIn_nI, bI_0, nI_add, nI_mul, nI_or, nI_and, nI_shl1, nI_bit, ↓pk_rem, pk_div, Nat.lt_irrefl, Nat.not_lt_zero, reduceCtorEq, ↓c_isCell H O, h, ↓x_refuse X]
  · rw [ix_t hc (by omega)]
    dsimp only
    have hc20 : c < 20 := by omega
    cases ho : A.occ c with
    | false =>
      have hw : A.who c = none := by
        unfold Ofc.occ at ho
        cases hw : A.who c with
        | none => rfl
        | some q => rw [hw] at ho; cases ho
      refine ⟨σ, Ag.rf, B, C, fun K => ?_⟩
      rw [if_neg Bool.false_ne_true, E_188]
      simp (disch := omega) only [L_188_0, zt_188_0, L_188_17, zt_188_17, L_188_37, zt_188_37, ↓e_iconst0, ↓e_iconst1, ↓e_bipush0, ↓e_bipush1, ↓e_sipush0, ↓e_sipush1, ↓e_ldc0, ↓e_ldc1, ↓e_ldc_w0, ↓e_ldc_w1, ↓e_ldc2, ↓e_lconst0, ↓e_lconst1, ↓e_ldc2_w0, ↓e_ldc2_w1, ↓e_iload, ↓e_iload_n, ↓e_istore, ↓e_istore_n, ↓e_lload, ↓e_lload_n, ↓e_lstore, ↓e_lstore_n, ↓e_aload, ↓e_aload_n, ↓e_astore, ↓e_astore_n, ↓e_iinc0, ↓e_iinc1, ↓e_iadd, ↓e_isub, ↓e_imul, ↓e_iand, ↓e_ior, ↓e_ixor, ↓e_ishl, ↓e_ishr, ↓e_iushr, ↓e_ladd, ↓e_lsub, ↓e_lmul, ↓e_land, ↓e_lor, ↓e_idiv, ↓e_irem, ↓e_ldiv, ↓e_lrem, ↓e_lshl, ↓e_lcmp, ↓e_i2l, ↓e_l2i, ↓e_i2b, ↓e_i2s, ↓e_dup_int, ↓e_pop_int, ↓e_dup_ref, ↓e_pop_ref, ↓e_dup2, ↓e_goto, ↓e_nop, ↓e_ifCond_eq, ↓e_if_icmp_eq, ↓e_ifCond_ne, ↓e_if_icmp_ne, ↓e_ifCond_lt, ↓e_if_icmp_lt, ↓e_ifCond_ge, ↓e_if_icmp_ge, ↓e_ifCond_gt, ↓e_if_icmp_gt, ↓e_ifCond_le, ↓e_if_icmp_le, ↓e_tab, ↓e_look, ↓e_get0, ↓e_get1, ↓e_get2, ↓e_get3, ↓e_put0, ↓e_put1, ↓e_put2, ↓e_put3, ↓e_iaload, ↓e_laload, ↓e_baload, ↓e_aaload, ↓e_iastore, ↓e_lastore, ↓e_bastore, ↓e_aastore, ↓e_alen, ↓e_new, ↓e_newarray, ↓e_anewarray, ↓e_objinit, ↓e_virt1, ↓e_virt2, ↓e_virt3, ↓e_virt4, ↓e_virt5, ↓e_virt6, ↓e_virt7, ↓e_stat0, ↓e_stat1, ↓e_stat2, ↓e_stat3, ↓e_stat4, ↓e_stat5, ↓e_stat6, ↓e_stat7, ↓e_spec1, ↓e_spec2, ↓e_spec3, ↓e_spec4, ↓e_spec5, ↓e_strlen, ↓e_charAt, ↓e_copy, ↓e_iret0, ↓e_iret1, ↓e_lret, ↓e_aret, ↓e_vret, zIsI_int, zIsL_long, zIsA_ref, zInt_int, true_and, and_true, ↓reduceIte, zGet, zSet, zSet2, zEnt, zWid, Value.category, List.map_cons, List.map_nil, List.sum_cons, List.sum_nil, List.replicate, Option.toList, Nat.reduceAdd, Nat.reduceSub, Nat.reduceMul, Nat.reduceLeDiff, Nat.reduceEqDiff, Nat.reduceLT, List.cons_append, List.nil_append, true_or, or_true, or_false, false_or, X.k, X.r6, X.r10, X.r11, X.r12, X.r13, X.r14, X.r15, X.r16, X.r17, X.r18, H.k, H.i0, H.i1, H.i2, H.i3, H.i4, H.i5, H.i6, H.i7, H.r8, H.r9, H.r10, H.r11, H.r12, H.r13, H.r14, H.r15, H.r16, H.r17, H.r18, H.k1, H.k2, H.k3, H.k4, H.k5, H.k6, H.k7, H.k8, H.k9, H.k10, H.k11, nI_ltI, nI_leI, nI_eq, nI_clamp, zIn_nI, bI_0, nI_add, nI_mul, nI_or, nI_and, nI_shl1, nI_bit, ↓pk_rem, pk_div, Nat.lt_irrefl, Nat.not_lt_zero, reduceCtorEq, ↓c_isCell H O, isI_cell O hc, hc20, H.a8 c hc20, hw, show oI none = -nI 1 from rfl, ↓x_refuse X]
    | true =>
      obtain ⟨q, hw⟩ := occ_who ho
      have nm : ¬ nI q = -nI 1 := fun hh => nI_pos (n := q) (by have := who31 c q hw; omega) (by rw [hh]; decide)
      obtain ⟨τ, f, B1, C1, S, c1⟩ := c_seek (d := d) B C H O ha2
      have X1 := X.ag f (by omega)
      have b8 := bsX_lt (A := A) (ct A.occ c)
      have xo : ∀ (K : Option Value → MS → Prop), zC (d + 12) 208 [.ref 1, .int (nI (A.bsX.2 (ct A.occ c)))] τ K = K (some (.int (qA (nI (A.bsX.2 (ct A.occ c)))).1)) (setI τ 1 0 (qA (nI (A.bsX.2 (ct A.occ c)))).2) := fun K => x_orNone (d := d + 10) (K := K) X1 (some (A.bsX.2 (ct A.occ c))) (fun j h => by cases h; omega)
      have cp := fun (K : Option Value → MS → Prop) => c_paperFor (d := d + 11) (K := K) B1 S O ho
      refine ⟨τ, f, B1, C1, fun K => ?_⟩
      rw [if_pos rfl, E_188]
      simp (disch := omega) only [L_188_0, zt_188_0, L_188_17, zt_188_17, L_188_37, zt_188_37, ↓e_iconst0, ↓e_iconst1, ↓e_bipush0, ↓e_bipush1, ↓e_sipush0, ↓e_sipush1, ↓e_ldc0, ↓e_ldc1, ↓e_ldc_w0, ↓e_ldc_w1, ↓e_ldc2, ↓e_lconst0, ↓e_lconst1, ↓e_ldc2_w0, ↓e_ldc2_w1, ↓e_iload, ↓e_iload_n, ↓e_istore, ↓e_istore_n, ↓e_lload, ↓e_lload_n, ↓e_lstore, ↓e_lstore_n, ↓e_aload, ↓e_aload_n, ↓e_astore, ↓e_astore_n, ↓e_iinc0, ↓e_iinc1, ↓e_iadd, ↓e_isub, ↓e_imul, ↓e_iand, ↓e_ior, ↓e_ixor, ↓e_ishl, ↓e_ishr, ↓e_iushr, ↓e_ladd, ↓e_lsub, ↓e_lmul, ↓e_land, ↓e_lor, ↓e_idiv, ↓e_irem, ↓e_ldiv, ↓e_lrem, ↓e_lshl, ↓e_lcmp, ↓e_i2l, ↓e_l2i, ↓e_i2b, ↓e_i2s, ↓e_dup_int, ↓e_pop_int, ↓e_dup_ref, ↓e_pop_ref, ↓e_dup2, ↓e_goto, ↓e_nop, ↓e_ifCond_eq, ↓e_if_icmp_eq, ↓e_ifCond_ne, ↓e_if_icmp_ne, ↓e_ifCond_lt, ↓e_if_icmp_lt, ↓e_ifCond_ge, ↓e_if_icmp_ge, ↓e_ifCond_gt, ↓e_if_icmp_gt, ↓e_ifCond_le, ↓e_if_icmp_le, ↓e_tab, ↓e_look, ↓e_get0, ↓e_get1, ↓e_get2, ↓e_get3, ↓e_put0, ↓e_put1, ↓e_put2, ↓e_put3, ↓e_iaload, ↓e_laload, ↓e_baload, ↓e_aaload, ↓e_iastore, ↓e_lastore, ↓e_bastore, ↓e_aastore, ↓e_alen, ↓e_new, ↓e_newarray, ↓e_anewarray, ↓e_objinit, ↓e_virt1, ↓e_virt2, ↓e_virt3, ↓e_virt4, ↓e_virt5, ↓e_virt6, ↓e_virt7, ↓e_stat0, ↓e_stat1, ↓e_stat2, ↓e_stat3, ↓e_stat4, ↓e_stat5, ↓e_stat6, ↓e_stat7, ↓e_spec1, ↓e_spec2, ↓e_spec3, ↓e_spec4, ↓e_spec5, ↓e_strlen, ↓e_charAt, ↓e_copy, ↓e_iret0, ↓e_iret1, ↓e_lret, ↓e_aret, ↓e_vret, zIsI_int, zIsL_long, zIsA_ref, zInt_int, true_and, and_true, ↓reduceIte, zGet, zSet, zSet2, zEnt, zWid, Value.category, List.map_cons, List.map_nil, List.sum_cons, List.sum_nil, List.replicate, Option.toList, Nat.reduceAdd, Nat.reduceSub, Nat.reduceMul, Nat.reduceLeDiff, Nat.reduceEqDiff, Nat.reduceLT, List.cons_append, List.nil_append, true_or, or_true, or_false, false_or, X.k, X.r6, X.r10, X.r11, X.r12, X.r13, X.r14, X.r15, X.r16, X.r17, X.r18, H.k, H.i0, H.i1, H.i2, H.i3, H.i4, H.i5, H.i6, H.i7, H.r8, H.r9, H.r10, H.r11, H.r12, H.r13, H.r14, H.r15, H.r16, H.r17, H.r18, H.k1, H.k2, H.k3, H.k4, H.k5, H.k6, H.k7, H.k8, H.k9, H.k10, H.k11, nI_ltI, nI_leI, nI_eq, nI_clamp, zIn_nI, bI_0, nI_add, nI_mul, nI_or, nI_and, nI_shl1, nI_bit, ↓pk_rem, pk_div, Nat.lt_irrefl, Nat.not_lt_zero, reduceCtorEq, ↓c_isCell H O, isI_cell O hc, hc20, H.a8 c hc20, hw, show oI (some q) = nI q from rfl, nm, B.k, B1.k, ↓c1, X1.k, X1.r16, ↓cp, ↓xo]
end BEX
