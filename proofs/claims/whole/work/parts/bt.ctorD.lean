/-! THE CLASS'S CONSTRUCTOR, WHOLE -/
section CTD
variable {d n m k : Nat} {ks : List (Nat × Nat)} {σ τ ρ : MS} {K : Option Value → MS → Prop} {A : Ofc} {p q : Nat → Prop}
abbrev kEnd : List (Nat × Nat) := [(0, 7), (3, 900), (2, 22), (0, 4), (0, 4), (0, 0), (1, 8), (1, 8), (1, 8), (1, 9), (1, 29), (1, 8), (1, 8), (1, 20), (1, 64), (0, 3), (1, 20), (0, 9), (1, 8), (1, 8), (1, 20), (1, 160)]
abbrev fBes : List (Nat × Nat × Nat) := [(4, 1, 8), (5, 1, 8), (6, 1, 8), (7, 1, 9), (8, 1, 29), (9, 1, 8), (10, 1, 8), (12, 1, 20), (13, 1, 64)]
abbrev fWei : List (Nat × Nat × Nat) := [(3, 1, 8), (4, 1, 8), (5, 1, 20), (6, 1, 160)]
theorem al_best (hn : σ.1.length = 103) : RBk (alO σ 0 fBes) ∧ BCa (alO σ 0 fBes) :=
  ⟨RBk.mk (al_K hn _ _) (al_R hn _ _ (i := 0) rfl) (al_R hn _ _ (i := 1) rfl) (al_R hn _ _ (i := 2) rfl) (al_R hn _ _ (i := 3) rfl) (al_R hn _ _ (i := 4) rfl) (al_R hn _ _ (i := 5) rfl) (al_R hn _ _ (i := 6) rfl) (al_R hn _ _ (i := 7) rfl) (al_R hn _ _ (i := 8) rfl) (al_Ki hn _ _ 0) (al_Ki hn _ _ 1) (al_Ki hn _ _ 2) (al_Ki hn _ _ 3) (al_Ki hn _ _ 4) (al_Ki hn _ _ 5) (al_Ki hn _ _ 6) (al_Ki hn _ _ 7) (al_Ki hn _ _ 8),
   ⟨fun _ => 0, fun _ => Nat.two_pow_pos 31, fun j _ => al_I hn _ _ (by omega) (by show 108 ≤ 103 + 9; omega)⟩, .inl (al_I hn _ _ (Nat.le_refl _) (by omega))⟩
theorem al_game (hn : σ.1.length = 113) : RPk (alO σ 3 [(4, 1, 20)]) := RPk.mk (al_K hn _ _) (al_R hn _ _ (i := 0) rfl) (al_Ki hn _ _ 0)
theorem al_weigh (hn : σ.1.length = 115) : RWk (alO σ 9 fWei) := RWk.mk (al_K hn _ _) (al_R hn _ _ (i := 0) rfl) (al_R hn _ _ (i := 1) rfl) (al_R hn _ _ (i := 2) rfl) (al_R hn _ _ (i := 3) rfl) (al_Ki hn _ _ 0) (al_Ki hn _ _ 1) (al_Ki hn _ _ 2) (al_Ki hn _ _ 3)
theorem al_text (hn : σ.1.length = 98) : RTx (alO σ 7 [(0, 3, 900), (12, 2, 22)]) ∧ sI (alO σ 7 [(0, 3, 900), (12, 2, 22)]) 98 1 = nI 0 := ⟨RTx.mk (al_K hn _ _) (al_R hn _ _ (i := 0) rfl) (al_R hn _ _ (i := 1) rfl) (al_Ki hn _ _ 0) (al_Ki hn _ _ 1), al_I hn _ _ (Nat.le_refl _) (by omega)⟩
theorem x_iD (hn : σ.1.length = 98) (k1 : sK σ 1 = (0, 10)) :
   ∃ τ, τ.1 = σ.1 ++ kEnd ∧ Up 98 σ τ ∧ sK τ 1 = (0, 10) ∧ (∀ j, sI τ 1 j = sI σ 1 j) ∧ (∀ j, sL τ 1 j = sL σ 1 j) ∧ (∀ j, sR τ 1 j = if j = 18 then 115 else if j = 17 then 113 else if j = 16 then 103 else if j = 15 then 102 else if j = 14 then 101 else if j = 13 then 98 else sR σ 1 j) ∧ RTx τ ∧ sI τ 98 1 = nI 0 ∧ (∀ k, k < 22 → sL τ 100 k = lN (nm27 (WL k))) ∧ (sK τ 101 = (0, 4) ∧ sI τ 101 0 = nI 0) ∧ sK τ 102 = (0, 4) ∧ RBk τ ∧ BCa τ ∧ RPk τ ∧ RWk τ ∧ ∀ K, zX (d + 4) 141 115 [.ref 1, .int (nI 3)] [] σ K = K none τ := by
  obtain ⟨τ1, f1, w1, c1⟩ := c_newText (d := d + 2) hn (by omega)
  have m1 : Mk1 98 [(0, 7), (3, 900), (2, 22)] σ τ1 := (al_mk hn (by omega) 7 [(0, 3, 900), (12, 2, 22)]).ag f1 (by omega) (fun c hc => by omega)
  obtain ⟨tx, tx1⟩ := al_text hn
  have o1 : RTx τ1 := tx.ag f1
  have p1 : sI τ1 98 1 = nI 0 := (f1.I (by omega) 1).trans tx1
  obtain ⟨v1, l1, q1, i1, g1, r1⟩ := m1.put 13 98
  obtain ⟨σ2, hs2⟩ : ∃ σ2, σ2 = setR τ1 1 13 98 := ⟨_, rfl⟩
  rw [← hs2] at v1 l1 q1 i1 g1 r1
  have n2 : σ2.1.length = 101 := by rw [l1, List.length_append, hn]; rfl
  have m2 := al_mk n2 (by omega) 4 []
  obtain ⟨v2, l2, q2, i2, g2, r2⟩ := m2.put 14 101
  obtain ⟨σ3, hs3⟩ : ∃ σ3, σ3 = setR (alO σ2 4 []) 1 14 101 := ⟨_, rfl⟩
  rw [← hs3] at v2 l2 q2 i2 g2 r2
  have n3 : σ3.1.length = 102 := by rw [l2, List.length_append, n2]; rfl
  have m3 := al_mk n3 (by omega) 4 []
  obtain ⟨v3, l3, q3, i3, g3, r3⟩ := m3.put 15 102
  obtain ⟨σ4, hs4⟩ : ∃ σ4, σ4 = setR (alO σ3 4 []) 1 15 102 := ⟨_, rfl⟩
  rw [← hs4] at v3 l3 q3 i3 g3 r3
  have n4 : σ4.1.length = 103 := by rw [l3, List.length_append, n3]; rfl
  have m4 := al_mk n4 (by omega) 0 fBes
  obtain ⟨v4, l4, q4, i4, g4, r4⟩ := m4.put 16 103
  obtain ⟨σ5, hs5⟩ : ∃ σ5, σ5 = setR (alO σ4 0 fBes) 1 16 103 := ⟨_, rfl⟩
  rw [← hs5] at v4 l4 q4 i4 g4 r4
  have n5 : σ5.1.length = 113 := by rw [l4, List.length_append, n4]; rfl
  have m5 := al_mk n5 (by omega) 3 [(4, 1, 20)]
  obtain ⟨v5, l5, q5, i5, g5, r5⟩ := m5.put 17 113
  obtain ⟨σ6, hs6⟩ : ∃ σ6, σ6 = setR (alO σ5 3 [(4, 1, 20)]) 1 17 113 := ⟨_, rfl⟩
  rw [← hs6] at v5 l5 q5 i5 g5 r5
  have n6 : σ6.1.length = 115 := by rw [l5, List.length_append, n5]; rfl
  have m6 := al_mk n6 (by omega) 9 fWei
  obtain ⟨v6, l6, q6, i6, g6, r6⟩ := m6.put 18 115
  obtain ⟨σ7, hs7⟩ : ∃ σ7, σ7 = setR (alO σ6 9 fWei) 1 18 115 := ⟨_, rfl⟩
  rw [← hs7] at v6 l6 q6 i6 g6 r6
  have n7 : σ7.1.length = 120 := by rw [l6, List.length_append, n6]; rfl
  have w5 : Up 113 σ5 σ7 := v5.tr v6 (by omega)
  have w4 : Up 103 σ4 σ7 := v4.tr w5 (by omega)
  have w3 : Up 102 σ3 σ7 := v3.tr w4 (by omega)
  have w2 : Up 101 σ2 σ7 := v2.tr w3 (by omega)
  have s1 : Up 101 τ1 σ7 := Up.tr (σ := τ1) (τ := σ2) (by rw [hs2]; exact up_R (by rw [m1.1, List.length_append, hn]; exact Nat.le_refl _)) w2 (Nat.le_refl _)
  have s2 : Up 102 (alO σ2 4 []) σ7 := Up.tr (τ := σ3) (by rw [hs3]; exact up_R (by rw [m2.1, List.length_append, n2]; exact Nat.le_refl _)) w3 (Nat.le_refl _)
  have s3 : Up 103 (alO σ3 4 []) σ7 := Up.tr (τ := σ4) (by rw [hs4]; exact up_R (by rw [m3.1, List.length_append, n3]; exact Nat.le_refl _)) w4 (Nat.le_refl _)
  have s4 : Up 113 (alO σ4 0 fBes) σ7 := Up.tr (τ := σ5) (by rw [hs5]; exact up_R (by rw [m4.1, List.length_append, n4]; exact Nat.le_refl _)) w5 (Nat.le_refl _)
  have s5 : Up 115 (alO σ5 3 [(4, 1, 20)]) σ7 := Up.tr (τ := σ6) (by rw [hs6]; exact up_R (by rw [m5.1, List.length_append, n5]; exact Nat.le_refl _)) v6 (Nat.le_refl _)
  have s6 : Up 120 (alO σ6 9 fWei) σ7 := by rw [hs7]; exact up_R (by rw [m6.1, List.length_append, n6]; exact Nat.le_refl _)
  obtain ⟨b1, b2⟩ := al_best n4
  have b3 := al_game n5
  have b4 := al_weigh n6
  have K1 := fun c (h : c < 101) (h1 : c ≠ 1) => s1.2 c h h1
  have K4 := fun c (h : c < 113) (h1 : c ≠ 1) => s4.2 c h h1
  have K5 := fun c (h : c < 115) (h1 : c ≠ 1) => s5.2 c h h1
  have K6 := fun c (h : c < 120) (h1 : c ≠ 1) => s6.2 c h h1
  refine ⟨σ7, ?_, v1.tr w2 (by omega), ?_, fun j => ?_, fun j => ?_, fun j => ?_, ?_, ?_, fun k hk => ?_, ⟨?_, ?_⟩, ?_, ?_, ?_, ?_, ?_, fun K => ?_⟩
  · rw [l6, l5, l4, l3, l2, l1]
    simp only [List.append_assoc]
    rfl
  · exact q6.trans (q5.trans (q4.trans (q3.trans (q2.trans (q1.trans k1)))))
  · rw [i6, i5, i4, i3, i2, i1]
  · rw [g6, g5, g4, g3, g2, g1]
  · rw [r6, r5, r4, r3, r2, r1]
  · exact RTx.mk ((K1 98 (by omega) (by omega)).1.trans o1.k) (((K1 98 (by omega) (by omega)).2.2.2 _).trans o1.r0) (((K1 98 (by omega) (by omega)).2.2.2 _).trans o1.r12) ((K1 99 (by omega) (by omega)).1.trans o1.k99) ((K1 100 (by omega) (by omega)).1.trans o1.k100)
  · exact ((K1 98 (by omega) (by omega)).2.1 _).trans p1
  · exact ((K1 100 (by omega) (by omega)).2.2.1 _).trans (w1 k hk)
  · exact (s2.2 101 (by omega) (by omega)).1.trans (al_K n2 _ _)
  · exact ((s2.2 101 (by omega) (by omega)).2.1 0).trans (al_I n2 _ _ (Nat.le_refl _) (Nat.le_refl _))
  · exact (s3.2 102 (by omega) (by omega)).1.trans (al_K n3 _ _)
  · exact RBk.mk ((K4 _ (by omega) (by omega)).1.trans b1.k) (((K4 _ (by omega) (by omega)).2.2.2 _).trans b1.r4) (((K4 _ (by omega) (by omega)).2.2.2 _).trans b1.r5) (((K4 _ (by omega) (by omega)).2.2.2 _).trans b1.r6) (((K4 _ (by omega) (by omega)).2.2.2 _).trans b1.r7) (((K4 _ (by omega) (by omega)).2.2.2 _).trans b1.r8) (((K4 _ (by omega) (by omega)).2.2.2 _).trans b1.r9) (((K4 _ (by omega) (by omega)).2.2.2 _).trans b1.r10) (((K4 _ (by omega) (by omega)).2.2.2 _).trans b1.r12) (((K4 _ (by omega) (by omega)).2.2.2 _).trans b1.r13) ((K4 _ (by omega) (by omega)).1.trans b1.k104) ((K4 _ (by omega) (by omega)).1.trans b1.k105) ((K4 _ (by omega) (by omega)).1.trans b1.k106) ((K4 _ (by omega) (by omega)).1.trans b1.k107) ((K4 _ (by omega) (by omega)).1.trans b1.k108) ((K4 _ (by omega) (by omega)).1.trans b1.k109) ((K4 _ (by omega) (by omega)).1.trans b1.k110) ((K4 _ (by omega) (by omega)).1.trans b1.k111) ((K4 _ (by omega) (by omega)).1.trans b1.k112)
  · obtain ⟨⟨g, y1, y2⟩, y3⟩ := b2
    refine ⟨⟨fun _ => 0, fun _ => Nat.two_pow_pos 31, fun j hj => ((K4 108 (by omega) (by omega)).2.1 j).trans (al_I n4 _ _ (by omega) (by show 108 ≤ 103 + 9; omega))⟩, .inl (((K4 103 (by omega) (by omega)).2.1 11).trans (al_I n4 _ _ (Nat.le_refl _) (by omega)))⟩
  · exact RPk.mk ((K5 _ (by omega) (by omega)).1.trans b3.k) (((K5 _ (by omega) (by omega)).2.2.2 _).trans b3.r4) ((K5 _ (by omega) (by omega)).1.trans b3.k1)
  · exact RWk.mk ((K6 _ (by omega) (by omega)).1.trans b4.k) (((K6 _ (by omega) (by omega)).2.2.2 _).trans b4.r3) (((K6 _ (by omega) (by omega)).2.2.2 _).trans b4.r4) (((K6 _ (by omega) (by omega)).2.2.2 _).trans b4.r5) (((K6 _ (by omega) (by omega)).2.2.2 _).trans b4.r6) ((K6 _ (by omega) (by omega)).1.trans b4.k1) ((K6 _ (by omega) (by omega)).1.trans b4.k2) ((K6 _ (by omega) (by omega)).1.trans b4.k3) ((K6 _ (by omega) (by omega)).1.trans b4.k4)
  · have zn : ∀ x : Nat, x < 1000 → x < zNul := fun x hx => by show x < 1000000; omega
    have z0 := zn 1 (by omega)
    have z1 := zn 98 (by omega)
    have z2 := zn 101 (by omega)
    have z3 := zn 102 (by omega)
    have z4 := zn 103 (by omega)
    have z5 := zn 113 (by omega)
    have z6 := zn 115 (by omega)
    have t1 := m1.2.2.1.trans k1
    have kk2 : sK σ2 1 = (0, 10) := q1.trans k1
    have kk3 : sK σ3 1 = (0, 10) := q2.trans kk2
    have kk4 : sK σ4 1 = (0, 10) := q3.trans kk3
    have kk5 : sK σ5 1 = (0, 10) := q4.trans kk4
    have kk6 : sK σ6 1 = (0, 10) := q5.trans kk5
    have t2 := m2.2.2.1.trans kk2
    have t3 := m3.2.2.1.trans kk3
    have t4 := m4.2.2.1.trans kk4
    have t5 := m5.2.2.1.trans kk5
    have t6 := m6.2.2.1.trans kk6
    have d2 := fun K => c_newLife (d := d + 3) (K := K) n2 (by omega)
    have d3 := fun K => c_newLife (d := d + 3) (K := K) n3 (by omega)
    have d4 := fun K => c_newBest (d := d + 3) (K := K) n4 (by omega)
    have d5 := fun K => c_newGame (d := d + 3) (K := K) n5 (by omega)
    have d6 := fun K => c_newWeigh (d := d + 3) (K := K) n6 (by omega)
    have y1 : sK (zNew σ (0, 7)) 98 = (0, 7) := by rw [← hn]; exact sK_zNew0
    have y2 : sK (zNew σ2 (0, 4)) 101 = (0, 4) := by rw [← n2]; exact sK_zNew0
    have y3 : sK (zNew σ3 (0, 4)) 102 = (0, 4) := by rw [← n3]; exact sK_zNew0
    have y4 : sK (zNew σ4 (0, 0)) 103 = (0, 0) := by rw [← n4]; exact sK_zNew0
    have y5 : sK (zNew σ5 (0, 3)) 113 = (0, 3) := by rw [← n5]; exact sK_zNew0
    have y6 : sK (zNew σ6 (0, 9)) 115 = (0, 9) := by rw [← n6]; exact sK_zNew0
    rw [L_141_115, zt_141_115]
    simp (disch := omega) only [L_141_152, zt_141_152, ↓e_iconst0, ↓e_iconst1, ↓e_bipush0, ↓e_bipush1, ↓e_sipush0, ↓e_sipush1, ↓e_ldc0, ↓e_ldc1, ↓e_ldc_w0, ↓e_ldc_w1, ↓e_ldc2, ↓e_lconst0, ↓e_lconst1, ↓e_ldc2_w0, ↓e_ldc2_w1, ↓e_iload, ↓e_iload_n, ↓e_istore, ↓e_istore_n, ↓e_lload, ↓e_lload_n, ↓e_lstore, ↓e_lstore_n, ↓e_aload, ↓e_aload_n, ↓e_astore, ↓e_astore_n, ↓e_iinc0, ↓e_iinc1, ↓e_iadd, ↓e_isub, ↓e_imul, ↓e_iand, ↓e_ior, ↓e_ixor, ↓e_ishl, ↓e_ishr, ↓e_iushr, ↓e_ladd, ↓e_lsub, ↓e_lmul, ↓e_land, ↓e_lor, ↓e_idiv, ↓e_irem, ↓e_ldiv, ↓e_lrem, ↓e_lshl, ↓e_lcmp, ↓e_i2l, ↓e_l2i, ↓e_i2b, ↓e_i2s, ↓e_dup_int, ↓e_pop_int, ↓e_dup_ref, ↓e_pop_ref, ↓e_dup2, ↓e_goto, ↓e_nop, ↓e_ifCond_eq, ↓e_if_icmp_eq, ↓e_ifCond_ne, ↓e_if_icmp_ne, ↓e_ifCond_lt, ↓e_if_icmp_lt, ↓e_ifCond_ge, ↓e_if_icmp_ge, ↓e_ifCond_gt, ↓e_if_icmp_gt, ↓e_ifCond_le, ↓e_if_icmp_le, ↓e_tab, ↓e_look, ↓e_get0, ↓e_get1, ↓e_get2, ↓e_get3, ↓e_put0, ↓e_put1, ↓e_put2, ↓e_put3, ↓e_iaload, ↓e_laload, ↓e_baload, ↓e_aaload, ↓e_iastore, ↓e_lastore, ↓e_bastore, ↓e_aastore, ↓e_alen, ↓e_new, ↓e_newarray, ↓e_anewarray, ↓e_objinit, ↓e_virt1, ↓e_virt2, ↓e_virt3, ↓e_virt4, ↓e_virt5, ↓e_virt6, ↓e_virt7, ↓e_stat0, ↓e_stat1, ↓e_stat2, ↓e_stat3, ↓e_stat4, ↓e_stat5, ↓e_stat6, ↓e_stat7, ↓e_spec1, ↓e_spec2, ↓e_spec3, ↓e_spec4, ↓e_spec5, ↓e_strlen, ↓e_charAt, ↓e_copy, ↓e_iret0, ↓e_iret1, ↓e_lret, ↓e_aret, ↓e_vret, zIsI_int, zIsL_long, zIsA_ref, zInt_int, true_and, and_true, ↓reduceIte, zGet, zSet, zSet2, zEnt, zWid, Value.category, List.map_cons, List.map_nil, List.sum_cons, List.sum_nil, List.replicate, Option.toList, Nat.reduceAdd, Nat.reduceSub, Nat.reduceMul, Nat.reduceLeDiff, Nat.reduceEqDiff, Nat.reduceLT, List.cons_append, List.nil_append, true_or, or_true, or_false, false_or, nI_ltI, nI_leI, nI_eq, nI_clamp, zIn_nI, bI_0, nI_add, nI_mul, nI_or, nI_and, nI_shl1, nI_bit, ↓pk_rem, pk_div, Nat.lt_irrefl, Nat.not_lt_zero, reduceCtorEq, sK_setI, sR_setI, sL_setI, k1, hn, z0, z1, z2, z3, z4, z5, z6, ↓c1, t1, ← hs2, n2, ↓d2, t2, ← hs3, n3, ↓d3, t3, ← hs4, n4, ↓d4, t4, ← hs5, n5, ↓d5, t5, ← hs6, n6, ↓d6, t6, ← hs7, y1, y2, y3, y4, y5, y6, not_false_eq_true]
def s0 : Sx := (Ofc.nil, none, fun _ => none, (0, fun _ => 0), none, (0, fun _ => Ofc.nil, fun _ => none), (nI 0, -nI 1, -nI 1), (lN 0, lN 1))
abbrev kX : List (Nat × Nat) := kOff ++ kOff ++ kDay ++ kDay ++ [(48, 4)] ++ nKs kTra 4 ++ [(45, 3), (41, 3)] ++ nKs kMrk 3 ++ kEnd
theorem X_init (hn : σ.1.length = 2) (k1 : sK σ 1 = (0, 10)) (zi : ∀ j, sI σ 1 j = nI 0) (zl : ∀ j, sL σ 1 j = lN 0) :
   ∃ τ, τ.1 = σ.1 ++ kX ∧ Up 2 σ τ ∧ IXc τ 2 14 26 31 s0 ∧ ∀ K, zC (d + 5) 141 [.ref 1] σ K = K none τ := by
  obtain ⟨τ1, l1, u1, o2, o14, d26, d31, z26, z31, k1, i1, g1, ⟨r6, r7, r8, r9, r10⟩, e1⟩ := x_iA (d := d) hn k1 zi zl
  have n1 : τ1.1.length = 37 := by rw [l1, List.length_append, hn]; rfl
  have k36 : sK τ1 36 = (48, 4) := by
    show τ1.1.getD 36 (99, 0) = _
    rw [l1, List.getD_eq_getElem?_getD, List.getElem?_append_right (by omega), hn]
    rfl
  obtain ⟨τ2, ⟨l2, v2, t2⟩, e2⟩ := x_iB (d := d) n1 k1 r10 k36
  have n2 : τ2.1.length = 45 := by rw [l2, List.length_append, n1]; rfl
  obtain ⟨τ3, l3, u3, k3, i3, g3, r3, e3⟩ := x_iB2 (d := d) n2 ((v2 1 (by omega)).1.trans k1)
  have n3 : τ3.1.length = 47 := by rw [l3, List.length_append, n2]; rfl
  have k45 : sK τ3 45 = (45, 3) := by
    show τ3.1.getD 45 (99, 0) = _
    rw [l3, List.getD_eq_getElem?_getD, List.getElem?_append_right (by omega), n2]
    rfl
  have k46 : sK τ3 46 = (41, 3) := by
    show τ3.1.getD 46 (99, 0) = _
    rw [l3, List.getD_eq_getElem?_getD, List.getElem?_append_right (by omega), n2]
    rfl
  obtain ⟨τ4, ⟨l4, v4, t4⟩, e4⟩ := x_iC (d := d) n3 k3 (by rw [r3]; rfl) (by rw [r3]; rfl) k45 k46
  have n4 : τ4.1.length = 98 := by rw [l4, List.length_append, n3]; rfl
  obtain ⟨τ5, l5, u5, k5, i5, g5, r5, tx, tx1, wd, ⟨y1, y2⟩, y3, bk, bc, pk, wk, e5⟩ := x_iD (d := d) n4 ((v4 1 (by omega)).1.trans k3)
  -- what stands at the end of what stood
  have c1 : ∀ c, c < 37 → c ≠ 1 → c ≠ 36 → sK τ5 c = sK τ1 c ∧ (∀ j, sI τ5 c j = sI τ1 c j) ∧ (∀ j, sL τ5 c j = sL τ1 c j) ∧ (∀ j, sR τ5 c j = sR τ1 c j) := fun c hc h1 h36 => by
    obtain ⟨a1, a2, a3, a4⟩ := v2 c (by omega)
    obtain ⟨b1, b2, b3, b4⟩ := u3.2 c (by omega) h1
    obtain ⟨p1, p2, p3, p4⟩ := v4 c (by omega)
    obtain ⟨q1, q2, q3, q4⟩ := u5.2 c (by omega) h1
    exact ⟨q1.trans (p1.trans (b1.trans a1)), fun j => (q2 j).trans ((p2 j).trans ((b2 j).trans (a2 j))), fun j => (q3 j).trans ((p3 j).trans ((b3 j).trans (a3 j))), fun j => (q4 j).trans ((p4 (by omega) j).trans ((b4 j).trans (a4 h36 j)))⟩
  have c2 : ∀ c, 2 ≤ c → c < 45 → sK τ5 c = sK τ2 c ∧ (∀ j, sI τ5 c j = sI τ2 c j) ∧ (∀ j, sR τ5 c j = sR τ2 c j) := fun c h1 hc => by
    obtain ⟨b1, b2, b3, b4⟩ := u3.2 c (by omega) (by omega)
    obtain ⟨p1, p2, p3, p4⟩ := v4 c (by omega)
    obtain ⟨q1, q2, q3, q4⟩ := u5.2 c (by omega) (by omega)
    exact ⟨q1.trans (p1.trans b1), fun j => (q2 j).trans ((p2 j).trans (b2 j)), fun j => (q4 j).trans ((p4 (by omega) j).trans (b4 j))⟩
  have R1 : ∀ j, j ≠ 11 → j ≠ 12 → j < 13 → sR τ5 1 j = sR τ1 1 j := fun j h1 h2 h3 => by
    rw [r5, if_neg (by omega), if_neg (by omega), if_neg (by omega), if_neg (by omega), if_neg (by omega), if_neg (by omega), (v4 1 (by omega)).2.2.2 (by omega) j, r3, if_neg h2, if_neg h1, (v2 1 (by omega)).2.2.2 (by omega) j]
  have R2 : ∀ j, j < 13 → sR τ5 1 j = sR τ3 1 j := fun j h3 => by
    rw [r5, if_neg (by omega), if_neg (by omega), if_neg (by omega), if_neg (by omega), if_neg (by omega), if_neg (by omega), (v4 1 (by omega)).2.2.2 (by omega) j]
  have I1 : ∀ j, sI τ5 1 j = sI τ1 1 j := fun j => by rw [i5, (v4 1 (by omega)).2.1 j, i3, (v2 1 (by omega)).2.1 j]
  have G1 : ∀ j, sL τ5 1 j = sL τ1 1 j := fun j => by rw [g5, (v4 1 (by omega)).2.2.1 j, g3, (v2 1 (by omega)).2.2.1 j]
  have off : ∀ a, 2 ≤ a → a + 11 < 36 → ROff τ1 a Ofc.nil → ROff τ5 a Ofc.nil := fun a h1 h2 X => X.congr (fun b g1 g2 => (c1 b (by omega) (by omega) (by omega)).1) (fun b j g1 g2 => (c1 b (by omega) (by omega) (by omega)).2.1 j) (fun b j g1 g2 => (c1 b (by omega) (by omega) (by omega)).2.2.1 j) (fun j => (c1 a (by omega) (by omega) (by omega)).2.2.2 j)
  have day : ∀ u, 2 ≤ u → u + 4 < 36 → RDk τ1 u → RDk τ5 u := fun u h1 h2 X => RDk.mk ((c1 u (by omega) (by omega) (by omega)).1.trans X.k) (((c1 u (by omega) (by omega) (by omega)).2.2.2 _).trans X.r2) (((c1 u (by omega) (by omega) (by omega)).2.2.2 _).trans X.r3) (((c1 u (by omega) (by omega) (by omega)).2.2.2 _).trans X.r4) (((c1 u (by omega) (by omega) (by omega)).2.2.2 _).trans X.r5) ((c1 _ (by omega) (by omega) (by omega)).1.trans X.k1) ((c1 _ (by omega) (by omega) (by omega)).1.trans X.k2) ((c1 _ (by omega) (by omega) (by omega)).1.trans X.k3) ((c1 _ (by omega) (by omega) (by omega)).1.trans X.k4)
  have tr : RTr τ5 (fun _ => none) := by
    have kt : ∀ c, 37 ≤ c → c < 45 → sK τ2 c = (nKs kTra 4).getD (c - 37) (99, 0) := fun c h1 h2 => by
      show τ2.1.getD c (99, 0) = _
      rw [l2, List.getD_eq_getElem?_getD, List.getElem?_append_right (by omega), n1, ← List.getD_eq_getElem?_getD]
    have ob : ∀ k, k < 4 → sK τ2 (37 + 2 * k) = (0, 8) ∧ sK τ2 (38 + 2 * k) = (2, 60) := fun k hk => by
      rw [kt _ (by omega) (by omega), kt _ (by omega) (by omega)]
      have : k = 0 ∨ k = 1 ∨ k = 2 ∨ k = 3 := by omega
      rcases this with rfl | rfl | rfl | rfl <;> exact ⟨rfl, rfl⟩
    exact RTr.mk ((c2 36 (by omega) (by omega)).1.trans ((v2 36 (by omega)).1.trans k36)) (fun k hk => ((c2 36 (by omega) (by omega)).2.2 k).trans (t2 k hk).1) (fun k hk => (c2 _ (by omega) (by omega)).1.trans (ob k hk).1) (fun k hk => ((c2 _ (by omega) (by omega)).2.2 3).trans (t2 k hk).2.1) (fun k hk => (c2 _ (by omega) (by omega)).1.trans (ob k hk).2) (fun k hk _ => ((c2 _ (by omega) (by omega)).2.1 0).trans (t2 k hk).2.2) (fun k x hk e => by cases e) (fun k x hk e => by cases e) (fun k x hk e => by cases e) (fun k x j hk e _ => by cases e)
  have u45 : sK τ5 45 = (45, 3) ∧ sK τ5 46 = (41, 3) := ⟨(u5.2 45 (by omega) (by omega)).1.trans ((v4 45 (by omega)).1.trans k45), (u5.2 46 (by omega) (by omega)).1.trans ((v4 46 (by omega)).1.trans k46)⟩
  have m45 : ∀ k, k < 3 → sR τ5 45 k = 47 + 17 * k ∧ sR τ5 46 k = 59 + 17 * k := fun k hk => ⟨((u5.2 45 (by omega) (by omega)).2.2.2 k).trans (t4 k hk).1, ((u5.2 46 (by omega) (by omega)).2.2.2 k).trans (t4 k hk).2.1⟩
  have mq : ∀ k, k < 3 → ROffK τ5 (47 + 17 * k) ∧ RDk τ5 (59 + 17 * k) := fun k hk => ⟨((t4 k hk).2.2.1.up u5 (by omega) (by omega)).kk, (t4 k hk).2.2.2.up u5 (by omega) (by omega)⟩
  have x : RXk τ5 2 := RXk.mk k5 ((R1 6 (by decide) (by decide) (by decide)).trans r6) ((R1 10 (by decide) (by decide) (by decide)).trans r10) ((R2 11 (by decide)).trans (by rw [r3]; rfl)) ((R2 12 (by decide)).trans (by rw [r3]; rfl)) (by rw [r5]; rfl) (by rw [r5]; rfl) (by rw [r5]; rfl) (by rw [r5]; rfl) (by rw [r5]; rfl) (by rw [r5]; rfl)
  refine ⟨τ5, ?_, ⟨?_, fun c hc h1 => ?_⟩, ?_, fun K => by rw [e1, e2, e3, e4, e5]⟩
  · rw [l5, l4, l3, l2, l1]
    simp only [List.append_assoc]
  · rw [l5, l4, l3, l2, l1]
    simp only [List.length_append, hn]
    omega
  · obtain ⟨a1, a2, a3, a4⟩ := c1 c (by omega) h1 (by omega)
    obtain ⟨b1, b2, b3, b4⟩ := u1.2 c hc h1
    exact ⟨a1.trans b1, fun j => (a2 j).trans (b2 j), fun j => (a3 j).trans (b3 j), fun j => (a4 j).trans (b4 j)⟩
  · exact IXc.mk (.inl ⟨rfl, rfl⟩) (.inl ⟨rfl, rfl⟩) x ((R1 7 (by decide) (by decide) (by decide)).trans r7) ((R1 8 (by decide) (by decide) (by decide)).trans r8) ((R1 9 (by decide) (by decide) (by decide)).trans r9) (off 2 (by omega) (by omega) o2) (off 14 (by omega) (by omega) o14).kk (day 26 (by omega) (by omega) d26) (day 31 (by omega) (by omega) d31) (((c1 26 (by omega) (by omega) (by omega)).2.1 0).trans z26) tr (RTp.mk tx tx1 (fun j hj => absurd hj (Nat.not_lt_zero j))) wd (RLi.mk y1 y2 (fun l hl => by cases hl)) y3 bk bc pk wk u45 m45 mq ((I1 5).trans (by rw [i1]; rfl)) (fun k hk => absurd hk (Nat.not_lt_zero k)) ((I1 0).trans (by rw [i1]; rfl)) ((I1 3).trans (by rw [i1]; rfl)) ((I1 4).trans (by rw [i1]; rfl)) ((G1 1).trans (by rw [g1]; rfl)) ((G1 2).trans (by rw [g1]; rfl))
end CTD
