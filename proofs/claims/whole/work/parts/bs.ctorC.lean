/-! THE CLASS'S CONSTRUCTOR, MARKS AND THE REST -/
section CTC
variable {d n m k : Nat} {ks : List (Nat × Nat)} {σ τ ρ : MS} {K : Option Value → MS → Prop} {A : Ofc} {p q : Nat → Prop}
theorem ROff.old {a : Nat} (X : ROff σ a A) (h : Old n q σ τ) (hn : a + 11 < n) (hq : ¬ q a) : ROff τ a A :=
  X.congr (fun b h1 h2 => (h b (by omega)).1) (fun b j h1 h2 => (h b (by omega)).2.1 j) (fun b j h1 h2 => (h b (by omega)).2.2.1 j) (fun j => (h a (by omega)).2.2.2 hq j)
theorem RDk.old {u : Nat} (X : RDk σ u) (h : Old n q σ τ) (hn : u + 4 < n) (hq : ¬ q u) : RDk τ u :=
  RDk.mk ((h u (by omega)).1.trans X.k) (((h u (by omega)).2.2.2 hq _).trans X.r2) (((h u (by omega)).2.2.2 hq _).trans X.r3) (((h u (by omega)).2.2.2 hq _).trans X.r4) (((h u (by omega)).2.2.2 hq _).trans X.r5) ((h _ (by omega)).1.trans X.k1) ((h _ (by omega)).1.trans X.k2) ((h _ (by omega)).1.trans X.k3) ((h _ (by omega)).1.trans X.k4)
abbrev kMrk : List (Nat × Nat) := kOff ++ kDay
def IvC (σ : MS) (i : Nat) (z : MS) : Prop := z.1 = σ.1 ++ nKs kMrk i ∧ Old 47 (fun c => c = 45 ∨ c = 46) σ z ∧ ∀ k, k < i → sR z 45 k = 47 + 17 * k ∧ sR z 46 k = 59 + 17 * k ∧ ROff z (47 + 17 * k) Ofc.nil ∧ RDk z (59 + 17 * k)
theorem x_iC (hn : σ.1.length = 47) (k1 : sK σ 1 = (0, 10)) (r11 : sR σ 1 11 = 45) (r12 : sR σ 1 12 = 46) (k45 : sK σ 45 = (45, 3)) (k46 : sK σ 46 = (41, 3)) :
   ∃ τ, IvC σ 3 τ ∧ ∀ K, zX (d + 4) 141 115 [.ref 1, .int (nI 0)] [] σ K = zX (d + 4) 141 115 [.ref 1, .int (nI 3)] [] τ K := by
  obtain ⟨τ, I, e⟩ := zloop (fun i z => IvC σ i z) (P := fun i z K => zX (d + 4) 141 115 [.ref 1, .int (nI i)] [] z K) (n := 3) (fun i z hi hI => by
    obtain ⟨e1, o, t⟩ := hI
    have nz : z.1.length = 47 + 17 * i := by rw [e1, List.length_append, hn, nKs_len]; rfl
    obtain ⟨τ1, M1, o1, c1⟩ := office_mk (d := d) nz (by omega) (by omega)
    obtain ⟨z1, hz1⟩ : ∃ z1, z1 = setR τ1 45 i (47 + 17 * i) := ⟨_, rfl⟩
    have n1 : z1.1.length = 59 + 17 * i := by rw [hz1, setR_1, M1.1, List.length_append, nz]; show 47 + 17 * i + 12 = _; omega
    have M2 := al_mk n1 (by omega) 1 [(2, 1, 30), (3, 1, 30), (4, 1, 30), (5, 1, 30)]
    obtain ⟨o2, p2⟩ := al_days n1
    have a1 : Old (47 + 17 * i) (fun c => c = 45 ∨ c = 46) z z1 := by rw [hz1]; exact M1.old.tr (old_R (.inl rfl))
    have a2 : Old (59 + 17 * i) (fun c => c = 45 ∨ c = 46) z1 (setR (alO z1 1 [(2, 1, 30), (3, 1, 30), (4, 1, 30), (5, 1, 30)]) 46 i (59 + 17 * i)) := M2.old.tr (old_R (.inr rfl))
    have a12 := a1.tr (a2.le (by omega : 47 + 17 * i ≤ 59 + 17 * i))
    have a3 : Old (59 + 17 * i) (fun c => c = 45 ∨ c = 46) τ1 z1 := by rw [hz1]; exact old_R (.inl rfl)
    refine ⟨setR (alO z1 1 [(2, 1, 30), (3, 1, 30), (4, 1, 30), (5, 1, 30)]) 46 i (59 + 17 * i), ⟨?_, o.tr (a12.le (by omega)), fun k hk => ?_⟩, ?_⟩
    · show z1.1 ++ kDay = σ.1 ++ (nKs kMrk i ++ (kOff ++ kDay))
      rw [hz1, setR_1, M1.1, e1]
      simp only [List.append_assoc]
    · by_cases h : k = i
      · rw [h]
        refine ⟨?_, by rw [sR_setR, if_pos ⟨rfl, rfl⟩], o1.old (a3.tr a2) (by omega) (by omega), ?_⟩
        · rw [sR_setR, if_neg (by omega)]
          rw [((M2.old (q := fun _ => False)) 45 (by omega)).2.2.2 (fun x => x) i, hz1, sR_setR, if_pos ⟨rfl, rfl⟩]
        · exact o2.old (n := 64 + 17 * i) (q := fun c => c = 46) (old_R rfl) (by omega) (by omega)
      · obtain ⟨t1, t2, t3, t4⟩ := t k (by omega)
        refine ⟨?_, ?_, t3.old a12 (by omega) (by omega), t4.old a12 (by omega) (by omega)⟩
        · rw [sR_setR, if_neg (by omega), ((M2.old (q := fun _ => False)) 45 (by omega)).2.2.2 (fun x => x) k, hz1, sR_setR, if_neg (fun x => h x.2), ((M1.old (q := fun _ => False)) 45 (by omega)).2.2.2 (fun x => x) k]
          exact t1
        · rw [sR_setR, if_neg (fun x => h x.2), ((M2.old (q := fun _ => False)) 46 (by omega)).2.2.2 (fun x => x) k, hz1, sR_setR, if_neg (by omega), ((M1.old (q := fun _ => False)) 46 (by omega)).2.2.2 (fun x => x) k]
          exact t2
    · funext K
      have zn : 47 + 17 * i < zNul := by show 47 + 17 * i < 1000000; omega
      have zn2 : 59 + 17 * i < zNul := by show 59 + 17 * i < 1000000; omega
      have z45 : 45 < zNul := by decide
      have z46 : 46 < zNul := by decide
      have z0 : 1 < zNul := by decide
      have K1 := (o 1 (by omega)).1.trans k1
      have R11 := ((o 1 (by omega)).2.2.2 (by omega) 11).trans r11
      have R12 := ((o 1 (by omega)).2.2.2 (by omega) 12).trans r12
      have K45 := (o 45 (by omega)).1.trans k45
      have K46 := (o 46 (by omega)).1.trans k46
      have T1 := (M1.old (q := fun _ => False)).le (by omega : 47 ≤ 47 + 17 * i)
      have tK1 := (T1 1 (by omega)).1.trans K1
      have tR12 := ((T1 1 (by omega)).2.2.2 (fun x => x) 12).trans R12
      have tK45 := (T1 45 (by omega)).1.trans K45
      have tKo : sK τ1 (47 + 17 * i) = (0, 5) := o1.k
      have yK1 := (a1 1 (by omega)).1.trans K1
      have yR12 := ((a1 1 (by omega)).2.2.2 (by omega) 12).trans R12
      have yK46 := (a1 46 (by omega)).1.trans K46
      have T2 := (M2.old (q := fun _ => False)).le (by omega : 47 ≤ 59 + 17 * i)
      have wK46 := (T2 46 (by omega)).1.trans yK46
      have wKo : sK (alO z1 1 [(2, 1, 30), (3, 1, 30), (4, 1, 30), (5, 1, 30)]) (59 + 17 * i) = (0, 1) := al_K n1 _ _
      have K0 : sK (zNew z (0, 5)) (47 + 17 * i) = (0, 5) := by rw [← nz]; exact sK_zNew0
      have K00 : sK (zNew z1 (0, 1)) (59 + 17 * i) = (0, 1) := by rw [← n1]; exact sK_zNew0
      have dt := fun K => c_newDays (d := d + 3) (K := K) n1 (by omega)
      rw [L_141_115, zt_141_115]
      simp (disch := omega) only [↓e_iconst0, ↓e_iconst1, ↓e_bipush0, ↓e_bipush1, ↓e_sipush0, ↓e_sipush1, ↓e_ldc0, ↓e_ldc1, ↓e_ldc_w0, ↓e_ldc_w1, ↓e_ldc2, ↓e_lconst0, ↓e_lconst1, ↓e_ldc2_w0, ↓e_ldc2_w1, ↓e_iload, ↓e_iload_n, ↓e_istore, ↓e_istore_n, ↓e_lload, ↓e_lload_n, ↓e_lstore, ↓e_lstore_n, ↓e_aload, ↓e_aload_n, ↓e_astore, ↓e_astore_n, ↓e_iinc0, ↓e_iinc1, ↓e_iadd, ↓e_isub, ↓e_imul, ↓e_iand, ↓e_ior, ↓e_ixor, ↓e_ishl, ↓e_ishr, ↓e_iushr, ↓e_ladd, ↓e_lsub, ↓e_lmul, ↓e_land, ↓e_lor, ↓e_idiv, ↓e_irem, ↓e_ldiv, ↓e_lrem, ↓e_lshl, ↓e_lcmp, ↓e_i2l, ↓e_l2i, ↓e_i2b, ↓e_i2s, ↓e_dup_int, ↓e_pop_int, ↓e_dup_ref, ↓e_pop_ref, ↓e_dup2, ↓e_goto, ↓e_nop, ↓e_ifCond_eq, ↓e_if_icmp_eq, ↓e_ifCond_ne, ↓e_if_icmp_ne, ↓e_ifCond_lt, ↓e_if_icmp_lt, ↓e_ifCond_ge, ↓e_if_icmp_ge, ↓e_ifCond_gt, ↓e_if_icmp_gt, ↓e_ifCond_le, ↓e_if_icmp_le, ↓e_tab, ↓e_look, ↓e_get0, ↓e_get1, ↓e_get2, ↓e_get3, ↓e_put0, ↓e_put1, ↓e_put2, ↓e_put3, ↓e_iaload, ↓e_laload, ↓e_baload, ↓e_aaload, ↓e_iastore, ↓e_lastore, ↓e_bastore, ↓e_aastore, ↓e_alen, ↓e_new, ↓e_newarray, ↓e_anewarray, ↓e_objinit, ↓e_virt1, ↓e_virt2, ↓e_virt3, ↓e_virt4, ↓e_virt5, ↓e_virt6, ↓e_virt7, ↓e_stat0, ↓e_stat1, ↓e_stat2, ↓e_stat3, ↓e_stat4, ↓e_stat5, ↓e_stat6, ↓e_stat7, ↓e_spec1, ↓e_spec2, ↓e_spec3, ↓e_spec4, ↓e_spec5, ↓e_strlen, ↓e_charAt, ↓e_copy, ↓e_iret0, ↓e_iret1, ↓e_lret, ↓e_aret, ↓e_vret, zIsI_int, zIsL_long, zIsA_ref, zInt_int, true_and, and_true, ↓reduceIte, zGet, zSet, zSet2, zEnt, zWid, Value.category, List.map_cons, List.map_nil, List.sum_cons, List.sum_nil, List.replicate, Option.toList, Nat.reduceAdd, Nat.reduceSub, Nat.reduceMul, Nat.reduceLeDiff, Nat.reduceEqDiff, Nat.reduceLT, List.cons_append, List.nil_append, true_or, or_true, or_false, false_or, nI_ltI, nI_leI, nI_eq, nI_clamp, zIn_nI, bI_0, nI_add, nI_mul, nI_or, nI_and, nI_shl1, nI_bit, ↓pk_rem, pk_div, Nat.lt_irrefl, Nat.not_lt_zero, reduceCtorEq, sK_setI, sR_setI, sL_setI, hi, K1, R11, R12, K45, K46, nz, zn, zn2, z45, z46, z0, K0, ↓c1, tK1, tR12, tK45, tKo, ← hz1, n1, yK1, yR12, yK46, K00, ↓dt, wK46, wKo, nIlt0, nI_clamp]) σ ⟨by show σ.1 = σ.1 ++ []; rw [List.append_nil], Old.rf, fun k hk => absurd hk (Nat.not_lt_zero k)⟩
  exact ⟨τ, I, fun K => congrFun e K⟩
end CTC
