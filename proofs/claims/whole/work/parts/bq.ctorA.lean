/-! THE CLASS'S CONSTRUCTOR -/
section CTA
variable {d n m k : Nat} {ks : List (Nat × Nat)} {σ τ ρ : MS} {K : Option Value → MS → Prop} {A : Ofc} {p : Nat → Prop}
/-- cells made behind n, cell 1 left as it is -/
def Mk1 (n : Nat) (ks : List (Nat × Nat)) (σ τ : MS) : Prop := τ.1 = σ.1 ++ ks ∧ Up n σ τ ∧ (sK τ 1 = sK σ 1) ∧ (∀ j, sI τ 1 j = sI σ 1 j) ∧ (∀ j, sL τ 1 j = sL σ 1 j) ∧ (∀ j, sR τ 1 j = sR σ 1 j)
theorem al_mk (hn : σ.1.length = n) (h1 : 1 < n) (c : Nat) (fs : List (Nat × Nat × Nat)) : Mk1 n ((0, c) :: fs.map (fun p => p.2)) σ (alO σ c fs) := by
  refine ⟨rfl, al_up hn c fs, ?_, fun j => ?_, fun j => ?_, fun j => ?_⟩
  · show (σ.1 ++ (0, c) :: fs.map (fun p => p.2)).getD 1 (99, 0) = σ.1.getD 1 (99, 0)
    rw [List.getD_eq_getElem?_getD, List.getElem?_append_left (by omega), ← List.getD_eq_getElem?_getD]
  · show (if σ.1.length ≤ 1 ∧ 1 ≤ σ.1.length + fs.length then 0 else σ.2.1 1 j) = _
    rw [if_neg (by omega)]
    rfl
  · show (if σ.1.length ≤ 1 ∧ 1 ≤ σ.1.length + fs.length then 0 else σ.2.2.1 1 j) = _
    rw [if_neg (by omega)]
    rfl
  · show (if 1 = σ.1.length then _ else if σ.1.length < 1 ∧ 1 ≤ σ.1.length + fs.length then zNul else σ.2.2.2 1 j) = _
    rw [if_neg (by omega), if_neg (by omega)]
    rfl
theorem Mk1.ag (h : Mk1 n ks σ τ) (f : Ag p τ ρ) (h1 : 1 < n) (hp : ∀ c, p c → n ≤ c) : Mk1 n ks σ ρ := by
  obtain ⟨e1, u, k1, i1, l1, r1⟩ := h
  have np : ∀ c, c < n → ¬ p c := fun c hc h => by have := hp c h; omega
  refine ⟨by rw [f.1, e1], ⟨by rw [f.1]; exact u.1, fun c hc h1c => ?_⟩, (f.K 1).trans k1, fun j => (f.I (np 1 h1) j).trans (i1 j), fun j => (f.L (np 1 h1) j).trans (l1 j), fun j => (f.R (np 1 h1) j).trans (r1 j)⟩
  obtain ⟨a1, a2, a3, a4⟩ := u.2 c hc h1c
  exact ⟨(f.K c).trans a1, fun j => (f.I (np c hc) j).trans (a2 j), fun j => (f.L (np c hc) j).trans (a3 j), fun j => (f.R (np c hc) j).trans (a4 j)⟩
theorem nw_mk (hn : σ.1.length = n) (h1 : 1 < n) (k : Nat × Nat) : Mk1 n [k] σ (zNew σ k) := by
  refine ⟨rfl, ⟨?_, fun c hc _ => ⟨sK_zNew (by omega), fun j => sI_zNew (by omega), fun j => sL_zNew (by omega), fun j => sR_zNew (by omega)⟩⟩, sK_zNew (by omega), fun j => sI_zNew (by omega), fun j => sL_zNew (by omega), fun j => sR_zNew (by omega)⟩
  show n ≤ (σ.1 ++ [k]).length
  rw [List.length_append]
  omega
theorem Up.rf (h : n ≤ σ.1.length) : Up n σ σ := ⟨h, fun _ _ _ => ⟨rfl, fun _ => rfl, fun _ => rfl, fun _ => rfl⟩⟩
theorem up_R {f v : Nat} (h : n ≤ σ.1.length) : Up n σ (setR σ 1 f v) := ⟨h, fun c _ h1 => ⟨rfl, fun _ => rfl, fun _ => rfl, fun j => by rw [sR_setR, if_neg (fun e => h1 e.1)]⟩⟩
theorem up_I {f : Nat} {v : Int32} (h : n ≤ σ.1.length) : Up n σ (setI σ 1 f v) := ⟨h, fun c _ h1 => ⟨rfl, fun j => by rw [sI_setI, if_neg (fun e => h1 e.1)], fun _ => rfl, fun _ => rfl⟩⟩
theorem up_L {f : Nat} {v : Int64} (h : n ≤ σ.1.length) : Up n σ (setL σ 1 f v) := ⟨h, fun c _ h1 => ⟨rfl, fun _ => rfl, fun j => by rw [sL_setL, if_neg (fun e => h1 e.1)], fun _ => rfl⟩⟩
/-- one more object, its number put into cell 1 -/
theorem Mk1.put (h : Mk1 n ks σ τ) (f v : Nat) : Up n σ (setR τ 1 f v) ∧ (setR τ 1 f v).1 = σ.1 ++ ks ∧ sK (setR τ 1 f v) 1 = sK σ 1 ∧ (∀ j, sI (setR τ 1 f v) 1 j = sI σ 1 j) ∧ (∀ j, sL (setR τ 1 f v) 1 j = sL σ 1 j) ∧ ∀ j, sR (setR τ 1 f v) 1 j = if j = f then v else sR σ 1 j := by
  obtain ⟨e1, u, k1, i1, l1, r1⟩ := h
  refine ⟨u.tr (up_R (n := n) u.1) (Nat.le_refl _), e1, k1, i1, l1, fun j => ?_⟩
  rw [sR_setR]
  by_cases e : j = f
  · rw [if_pos ⟨rfl, e⟩, if_pos e]
  · rw [if_neg (fun x => e x.2), if_neg e]; exact r1 j
theorem ROff.up {a : Nat} (X : ROff σ a A) (h : Up n σ τ) (ha : 1 < a) (hn : a + 11 < n) : ROff τ a A :=
  X.congr (fun b h1 h2 => (h.2 b (by omega) (by omega)).1) (fun b j h1 h2 => (h.2 b (by omega) (by omega)).2.1 j) (fun b j h1 h2 => (h.2 b (by omega) (by omega)).2.2.1 j) (fun j => (h.2 a (by omega) (by omega)).2.2.2 j)
theorem RDk.up {u : Nat} (X : RDk σ u) (h : Up n σ τ) (hu : 1 < u) (hn : u + 4 < n) : RDk τ u :=
  RDk.mk ((h.2 u (by omega) (by omega)).1.trans X.k) (((h.2 u (by omega) (by omega)).2.2.2 _).trans X.r2) (((h.2 u (by omega) (by omega)).2.2.2 _).trans X.r3) (((h.2 u (by omega) (by omega)).2.2.2 _).trans X.r4) (((h.2 u (by omega) (by omega)).2.2.2 _).trans X.r5) ((h.2 _ (by omega) (by omega)).1.trans X.k1) ((h.2 _ (by omega) (by omega)).1.trans X.k2) ((h.2 _ (by omega) (by omega)).1.trans X.k3) ((h.2 _ (by omega) (by omega)).1.trans X.k4)
theorem al_days (hn : σ.1.length = n) : RDk (alO σ 1 [(2, 1, 30), (3, 1, 30), (4, 1, 30), (5, 1, 30)]) n ∧ sI (alO σ 1 [(2, 1, 30), (3, 1, 30), (4, 1, 30), (5, 1, 30)]) n 0 = nI 0 :=
  ⟨RDk.mk (al_K hn _ _) (al_R hn _ _ (i := 0) rfl) (al_R hn _ _ (i := 1) rfl) (al_R hn _ _ (i := 2) rfl) (al_R hn _ _ (i := 3) rfl) (al_Ki hn _ _ 0) (al_Ki hn _ _ 1) (al_Ki hn _ _ 2) (al_Ki hn _ _ 3), al_I hn _ _ (Nat.le_refl _) (Nat.le_add_right _ _)⟩
abbrev kOff : List (Nat × Nat) := [(0, 5), (1, 8), (2, 8), (1, 8), (1, 8), (2, 8), (1, 4), (2, 4), (1, 20), (1, 80), (1, 64), (1, 20)]
abbrev kDay : List (Nat × Nat) := [(0, 1), (1, 30), (1, 30), (1, 30), (1, 30)]
theorem office_mk (hn : σ.1.length = n) (h1 : 1 < n) (h : n < 1000) : ∃ τ, Mk1 n kOff σ τ ∧ ROff τ n Ofc.nil ∧ ∀ K, zC (d + 4) 38 [.ref n] (zNew σ (0, 5)) K = K none τ := by
  obtain ⟨τ, f, r, e⟩ := c_newOffice (d := d) hn h
  exact ⟨τ, (al_mk hn h1 5 _).ag f h1 (fun c hc => hc.1), r, e⟩
/-- the first stage -/
theorem x_iA (hn : σ.1.length = 2) (k1 : sK σ 1 = (0, 10)) (zi : ∀ j, sI σ 1 j = nI 0) (zl : ∀ j, sL σ 1 j = lN 0) :
   ∃ τ, τ.1 = σ.1 ++ (kOff ++ kOff ++ kDay ++ kDay ++ [(48, 4)]) ∧ Up 2 σ τ ∧ ROff τ 2 Ofc.nil ∧ ROff τ 14 Ofc.nil ∧ RDk τ 26 ∧ RDk τ 31 ∧ sI τ 26 0 = nI 0 ∧ sI τ 31 0 = nI 0 ∧ sK τ 1 = (0, 10) ∧ (∀ j, sI τ 1 j = if j = 4 then -nI 1 else if j = 3 then -nI 1 else nI 0) ∧ (∀ j, sL τ 1 j = if j = 2 then lN 1 else lN 0) ∧ (sR τ 1 6 = 2 ∧ sR τ 1 7 = 14 ∧ sR τ 1 8 = 26 ∧ sR τ 1 9 = 31 ∧ sR τ 1 10 = 36) ∧ ∀ K, zC (d + 5) 141 [.ref 1] σ K = zX (d + 4) 141 73 [.ref 1, .int (nI 0)] [] τ K := by
  obtain ⟨σ1, hs1⟩ : ∃ σ1, σ1 = setI (setI (setL σ 1 2 (lN 1)) 1 3 (-nI 1)) 1 4 (-nI 1) := ⟨_, rfl⟩
  have n1 : σ1.1.length = 2 := by rw [hs1]; exact hn
  have u1 : Up 2 σ σ1 := by rw [hs1]; exact ((up_L (by omega)).tr (up_I (by show 2 ≤ σ.1.length; omega)) (Nat.le_refl _)).tr (up_I (by show 2 ≤ σ.1.length; omega)) (Nat.le_refl _)
  obtain ⟨τ1, m1, o1, e1⟩ := office_mk (d := d) n1 (by omega) (by omega)
  obtain ⟨v1, l1, q1, i1, g1, r1⟩ := m1.put 6 2
  obtain ⟨σ2, hs2⟩ : ∃ σ2, σ2 = setR τ1 1 6 2 := ⟨_, rfl⟩
  rw [← hs2] at v1 l1 q1 i1 g1 r1
  have n2 : σ2.1.length = 14 := by rw [l1, List.length_append, n1]; rfl
  obtain ⟨τ2, m2, o2, e2⟩ := office_mk (d := d) n2 (by omega) (by omega)
  obtain ⟨v2, l2, q2, i2, g2, r2⟩ := m2.put 7 14
  obtain ⟨σ3, hs3⟩ : ∃ σ3, σ3 = setR τ2 1 7 14 := ⟨_, rfl⟩
  rw [← hs3] at v2 l2 q2 i2 g2 r2
  have n3 : σ3.1.length = 26 := by rw [l2, List.length_append, n2]; rfl
  have m3 := al_mk n3 (by omega) 1 [(2, 1, 30), (3, 1, 30), (4, 1, 30), (5, 1, 30)]
  obtain ⟨o3, p3⟩ := al_days n3
  obtain ⟨v3, l3, q3, i3, g3, r3⟩ := m3.put 8 26
  obtain ⟨σ4, hs4⟩ : ∃ σ4, σ4 = setR (alO σ3 1 [(2, 1, 30), (3, 1, 30), (4, 1, 30), (5, 1, 30)]) 1 8 26 := ⟨_, rfl⟩
  rw [← hs4] at v3 l3 q3 i3 g3 r3
  have n4 : σ4.1.length = 31 := by rw [l3, List.length_append, n3]; rfl
  have m4 := al_mk n4 (by omega) 1 [(2, 1, 30), (3, 1, 30), (4, 1, 30), (5, 1, 30)]
  obtain ⟨o4, p4⟩ := al_days n4
  obtain ⟨v4, l4, q4, i4, g4, r4⟩ := m4.put 9 31
  obtain ⟨σ5, hs5⟩ : ∃ σ5, σ5 = setR (alO σ4 1 [(2, 1, 30), (3, 1, 30), (4, 1, 30), (5, 1, 30)]) 1 9 31 := ⟨_, rfl⟩
  rw [← hs5] at v4 l4 q4 i4 g4 r4
  have n5 : σ5.1.length = 36 := by rw [l4, List.length_append, n4]; rfl
  have m5 := nw_mk n5 (by omega) (48, 4)
  obtain ⟨v5, l5, q5, i5, g5, r5⟩ := m5.put 10 36
  obtain ⟨σ6, hs6⟩ : ∃ σ6, σ6 = setR (zNew σ5 (48, 4)) 1 10 36 := ⟨_, rfl⟩
  rw [← hs6] at v5 l5 q5 i5 g5 r5
  have w5 : Up 36 σ5 σ6 := v5
  have w4 : Up 31 σ4 σ6 := v4.tr w5 (by omega)
  have w3 : Up 26 σ3 σ6 := v3.tr w4 (by omega)
  have w2 : Up 14 σ2 σ6 := v2.tr w3 (by omega)
  have w1 : Up 2 σ1 σ6 := v1.tr w2 (by omega)
  have s1 : Up 14 τ1 σ2 := by rw [hs2]; exact up_R (by rw [m1.1, List.length_append, n1]; exact Nat.le_refl _)
  have s2 : Up 26 τ2 σ3 := by rw [hs3]; exact up_R (by rw [m2.1, List.length_append, n2]; exact Nat.le_refl _)
  have s3 : Up 31 (alO σ3 1 [(2, 1, 30), (3, 1, 30), (4, 1, 30), (5, 1, 30)]) σ4 := by rw [hs4]; exact up_R (by rw [m3.1, List.length_append, n3]; exact Nat.le_refl _)
  have s4 : Up 36 (alO σ4 1 [(2, 1, 30), (3, 1, 30), (4, 1, 30), (5, 1, 30)]) σ5 := by rw [hs5]; exact up_R (by rw [m4.1, List.length_append, n4]; exact Nat.le_refl _)
  have O1 := o1.up (s1.tr w2 (Nat.le_refl _)) (by omega) (by omega)
  have O2 := o2.up (s2.tr w3 (Nat.le_refl _)) (by omega) (by omega)
  have O3 := o3.up (s3.tr w4 (Nat.le_refl _)) (by omega) (by omega)
  have O4 := o4.up (s4.tr w5 (Nat.le_refl _)) (by omega) (by omega)
  have P3 : sI σ6 26 0 = nI 0 := (((s3.tr w4 (Nat.le_refl _)).2 26 (by omega) (by omega)).2.1 0).trans p3
  have P4 : sI σ6 31 0 = nI 0 := (((s4.tr w5 (Nat.le_refl _)).2 31 (by omega) (by omega)).2.1 0).trans p4
  have kk1 : sK σ1 1 = (0, 10) := by rw [hs1]; exact k1
  have kk2 : sK σ2 1 = (0, 10) := q1.trans kk1
  have kk3 : sK σ3 1 = (0, 10) := q2.trans kk2
  have kk4 : sK σ4 1 = (0, 10) := q3.trans kk3
  have kk5 : sK σ5 1 = (0, 10) := q4.trans kk4
  have kk6 : sK σ6 1 = (0, 10) := q5.trans kk5
  refine ⟨σ6, ?_, u1.tr w1 (Nat.le_refl _), O1, O2, O3, O4, P3, P4, kk6, fun j => ?_, fun j => ?_, ⟨?_, ?_, ?_, ?_, ?_⟩, fun K => ?_⟩
  · rw [l5, l4, l3, l2, l1, hs1]
    simp only [List.append_assoc, setI_1, setL_1]
    rfl
  · rw [i5, i4, i3, i2, i1, hs1, sI_setI]
    by_cases h4 : j = 4
    · rw [if_pos ⟨rfl, h4⟩, if_pos h4]
    · rw [if_neg (fun x => h4 x.2), if_neg h4, sI_setI]
      by_cases h3 : j = 3
      · rw [if_pos ⟨rfl, h3⟩, if_pos h3]
      · rw [if_neg (fun x => h3 x.2), if_neg h3]; exact zi j
  · rw [g5, g4, g3, g2, g1, hs1]
    show sL (setL σ 1 2 (lN 1)) 1 j = _
    rw [sL_setL]
    by_cases h2 : j = 2
    · rw [if_pos ⟨rfl, h2⟩, if_pos h2]
    · rw [if_neg (fun x => h2 x.2), if_neg h2]; exact zl j
  · rw [r5, if_neg (by decide), r4, if_neg (by decide), r3, if_neg (by decide), r2, if_neg (by decide), r1, if_pos rfl]
  · rw [r5, if_neg (by decide), r4, if_neg (by decide), r3, if_neg (by decide), r2, if_pos rfl]
  · rw [r5, if_neg (by decide), r4, if_neg (by decide), r3, if_pos rfl]
  · rw [r5, if_neg (by decide), r4, if_pos rfl]
  · rw [r5, if_pos rfl]
  · have d1 := fun K => c_newDays (d := d + 3) (K := K) n3 (by omega)
    have d2 := fun K => c_newDays (d := d + 3) (K := K) n4 (by omega)
    have zn : ∀ x : Nat, x < 1000 → x < zNul := fun x hx => by show x < 1000000; omega
    have z1 := zn 2 (by omega)
    have z2 := zn 14 (by omega)
    have z3 := zn 26 (by omega)
    have z4 := zn 31 (by omega)
    have z5 := zn 36 (by omega)
    have z0 := zn 1 (by omega)
    have t1 : sK τ1 1 = (0, 10) := m1.2.2.1.trans kk1
    have t2 : sK τ2 1 = (0, 10) := m2.2.2.1.trans kk2
    have t3 := m3.2.2.1.trans kk3
    have t4 := m4.2.2.1.trans kk4
    have t5 := m5.2.2.1.trans kk5
    have kl : sK (setL σ 1 2 (lN 1)) 1 = (0, 10) := k1
    have y1 : sK (zNew σ1 (0, 5)) 2 = (0, 5) := by rw [← n1]; exact sK_zNew0
    have y2 : sK (zNew σ2 (0, 5)) 14 = (0, 5) := by rw [← n2]; exact sK_zNew0
    have y3 : sK (zNew σ3 (0, 1)) 26 = (0, 1) := by rw [← n3]; exact sK_zNew0
    have y4 : sK (zNew σ4 (0, 1)) 31 = (0, 1) := by rw [← n4]; exact sK_zNew0
    rw [E_141]
    simp (disch := omega) only [L_141_0, zt_141_0, ↓e_iconst0, ↓e_iconst1, ↓e_bipush0, ↓e_bipush1, ↓e_sipush0, ↓e_sipush1, ↓e_ldc0, ↓e_ldc1, ↓e_ldc_w0, ↓e_ldc_w1, ↓e_ldc2, ↓e_lconst0, ↓e_lconst1, ↓e_ldc2_w0, ↓e_ldc2_w1, ↓e_iload, ↓e_iload_n, ↓e_istore, ↓e_istore_n, ↓e_lload, ↓e_lload_n, ↓e_lstore, ↓e_lstore_n, ↓e_aload, ↓e_aload_n, ↓e_astore, ↓e_astore_n, ↓e_iinc0, ↓e_iinc1, ↓e_iadd, ↓e_isub, ↓e_imul, ↓e_iand, ↓e_ior, ↓e_ixor, ↓e_ishl, ↓e_ishr, ↓e_iushr, ↓e_ladd, ↓e_lsub, ↓e_lmul, ↓e_land, ↓e_lor, ↓e_idiv, ↓e_irem, ↓e_ldiv, ↓e_lrem, ↓e_lshl, ↓e_lcmp, ↓e_i2l, ↓e_l2i, ↓e_i2b, ↓e_i2s, ↓e_dup_int, ↓e_pop_int, ↓e_dup_ref, ↓e_pop_ref, ↓e_dup2, ↓e_goto, ↓e_nop, ↓e_ifCond_eq, ↓e_if_icmp_eq, ↓e_ifCond_ne, ↓e_if_icmp_ne, ↓e_ifCond_lt, ↓e_if_icmp_lt, ↓e_ifCond_ge, ↓e_if_icmp_ge, ↓e_ifCond_gt, ↓e_if_icmp_gt, ↓e_ifCond_le, ↓e_if_icmp_le, ↓e_tab, ↓e_look, ↓e_get0, ↓e_get1, ↓e_get2, ↓e_get3, ↓e_put0, ↓e_put1, ↓e_put2, ↓e_put3, ↓e_iaload, ↓e_laload, ↓e_baload, ↓e_aaload, ↓e_iastore, ↓e_lastore, ↓e_bastore, ↓e_aastore, ↓e_alen, ↓e_new, ↓e_newarray, ↓e_anewarray, ↓e_objinit, ↓e_virt1, ↓e_virt2, ↓e_virt3, ↓e_virt4, ↓e_virt5, ↓e_virt6, ↓e_virt7, ↓e_stat0, ↓e_stat1, ↓e_stat2, ↓e_stat3, ↓e_stat4, ↓e_stat5, ↓e_stat6, ↓e_stat7, ↓e_spec1, ↓e_spec2, ↓e_spec3, ↓e_spec4, ↓e_spec5, ↓e_strlen, ↓e_charAt, ↓e_copy, ↓e_iret0, ↓e_iret1, ↓e_lret, ↓e_aret, ↓e_vret, zIsI_int, zIsL_long, zIsA_ref, zInt_int, true_and, and_true, ↓reduceIte, zGet, zSet, zSet2, zEnt, zWid, Value.category, List.map_cons, List.map_nil, List.sum_cons, List.sum_nil, List.replicate, Option.toList, Nat.reduceAdd, Nat.reduceSub, Nat.reduceMul, Nat.reduceLeDiff, Nat.reduceEqDiff, Nat.reduceLT, List.cons_append, List.nil_append, true_or, or_true, or_false, false_or, nI_ltI, nI_leI, nI_eq, nI_clamp, zIn_nI, bI_0, nI_add, nI_mul, nI_or, nI_and, nI_shl1, nI_bit, ↓pk_rem, pk_div, Nat.lt_irrefl, Nat.not_lt_zero, reduceCtorEq, sK_setI, sR_setI, sL_setI, k1, hn, z0, z1, z2, z3, z4, z5, ← hs1, n1, ↓e1, t1, ← hs2, n2, ↓e2, t2, ← hs3, n3, ↓d1, t3, ← hs4, n4, ↓d2, t4, ← hs5, n5, t5, ← hs6, nIlt0, nI_clamp, kl, y1, y2, y3, y4, not_false_eq_true]
end CTA
