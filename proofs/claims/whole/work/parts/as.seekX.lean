/-! BEST, the class: sought, or as before -/
/-- the best way to lay what lies: one more than its likeness, and the papers of the ranks -/
def Ofc.bsX (A : Ofc) : Nat × (Nat → Nat) := srch (gAd A.wBe A.like) A.N 0 (fun _ => 0) A.lie 0 (0, fun _ => 0)
def Ofc.bst (A : Ofc) : Nat := A.bsX.1 - 1
def allEq (f g : Nat → Int32) : Nat → Nat → Bool
  | 0, _ => true
  | m + 1, i => if f i = g i then allEq f g m (i + 1) else false
theorem allEq_iff (f g : Nat → Int32) : ∀ (m i : Nat), allEq f g m i = true ↔ ∀ j, i ≤ j → j < i + m → f j = g j := by
  intro m
  induction m with
  | zero => intro i; exact ⟨fun _ j h1 h2 => by omega, fun _ => rfl⟩
  | succ m ih =>
    intro i
    unfold allEq
    by_cases h : f i = g i
    · rw [if_pos h, ih]
      refine ⟨fun hh j h1 h2 => ?_, fun hh j h1 h2 => hh j (by omega) (by omega)⟩
      by_cases e : j = i
      · rw [e]; exact h
      · exact hh j (by omega) (by omega)
    · rw [if_neg h]
      exact ⟨fun hh => (by cases hh), fun hh => absurd (hh i (Nat.le_refl _) (by omega)) h⟩
theorem srch_congr {g g' : Nat → (Nat → Nat) → Nat → Nat} {P : Nat → Bool} {N : Nat} (h : ∀ k t p, k < N → (∀ i, i < k → P (t i) = true) → P p = true → g k t p = g' k t p) : ∀ (m k : Nat) (t : Nat → Nat) (l : Nat → Bool) (s : Nat) (a : Nat × (Nat → Nat)), k + m = N → (∀ i, i < k → P (t i) = true) → (∀ q, l q = true → P q = true) → srch g m k t l s a = srch g' m k t l s a := by
  intro m
  induction m with
  | zero => intro k t l s a _ _ _; rfl
  | succ m ih =>
    intro k t l s a hk ht hl
    refine zfor_congr (fun p a _ => ?_)
    cases hp : l p with
    | false => rfl
    | true =>
      rw [if_pos rfl, if_pos rfl, h k t p (by omega) ht (hl p hp)]
      refine ih _ _ _ _ _ (by omega) (fun i hi => ?_) (fun q hq => ?_)
      · by_cases e : i = k
        · rw [e, upF_s]; exact hl p hp
        · rw [upF_n _ _ e]; exact ht i (by omega)
      · rw [Bool.and_eq_true] at hq
        exact hl q hq.1
theorem srch_lt {g : Nat → (Nat → Nat) → Nat → Nat} : ∀ (m k : Nat) (t : Nat → Nat) (l : Nat → Bool) (s : Nat) (a : Nat × (Nat → Nat)), (∀ i, t i < 8) → (∀ i, a.2 i < 8) → ∀ i, (srch g m k t l s a).2 i < 8 := by
  intro m
  induction m with
  | zero =>
    intro k t l s a ht ha i
    show (if a.1 < s + 1 then (s + 1, t) else a).2 i < 8
    split
    · exact ht i
    · exact ha i
  | succ m ih =>
    intro k t l s a ht ha
    have : ∀ n, n ≤ 8 → ∀ i, (zfor (fun p a => if l p = true then srch g m (k + 1) (upF t k p) (fun q => l q && !(q == p)) (s + g k t p) a else a) n a).2 i < 8 := by
      intro n
      induction n with
      | zero => intro _; exact ha
      | succ n ih2 =>
        intro hn i
        rw [zfor_s]
        split
        · refine ih _ _ _ _ _ (fun j => ?_) (ih2 (by omega)) i
          by_cases e : j = k
          · rw [e, upF_s]; omega
          · rw [upF_n _ _ e]; exact ht j
        · exact ih2 (by omega) i
    exact this 8 (Nat.le_refl _)
theorem nth_ext {P : Nat → Bool} {n m k : Nat} (h : n ≤ m) (hf : ∀ i, n ≤ i → P i = false) : nth P m k = nth P n k := by
  have hlt : ∀ i, P i = true → i < n := fun i hi => by
    rcases Nat.lt_or_ge i n with h1 | h1
    · exact h1
    · rw [hf i h1] at hi; cases hi
  cases e : nth P m k with
  | some i =>
    obtain ⟨h1, h2, h3⟩ := nth_is e
    rw [← h3]
    exact (nth_of (hlt i h2) h2).symm
  | none =>
    cases e2 : nth P n k with
    | none => rfl
    | some i =>
      obtain ⟨h1, h2, h3⟩ := nth_is e2
      have := nth_of (P := P) (show i < m by omega) h2
      rw [h3, e] at this
      cases this
/-- what the BestLay keeps of the Office that was sought last -/
def BSo (σ : MS) (A : Ofc) : Prop := (sI σ 103 11 = nI A.wide) ∧ (∀ c, c < 20 → sI σ 111 c = oI (A.who c)) ∧ (∀ p q, p < A.np → q < A.np → sI σ 112 (p * 8 + q) = nI (A.like p q)) ∧ (sI σ 103 0 = nI A.bst) ∧ (sI σ 103 2 = nI A.N) ∧ (∀ k, k < A.N → sI σ 104 k = nI (A.cc k)) ∧ (∀ k, k < A.N → sI σ 110 k = nI (A.bsX.2 k))
theorem BSo.wi {σ : MS} {A : Ofc} (H : BSo σ A) : sI σ 103 11 = nI A.wide := H.1
theorem BSo.la {σ : MS} {A : Ofc} (H : BSo σ A) : ∀ c, c < 20 → sI σ 111 c = oI (A.who c) := H.2.1
theorem BSo.al {σ : MS} {A : Ofc} (H : BSo σ A) : ∀ p q, p < A.np → q < A.np → sI σ 112 (p * 8 + q) = nI (A.like p q) := H.2.2.1
theorem BSo.to {σ : MS} {A : Ofc} (H : BSo σ A) : sI σ 103 0 = nI A.bst := H.2.2.2.1
theorem BSo.n {σ : MS} {A : Ofc} (H : BSo σ A) : sI σ 103 2 = nI A.N := H.2.2.2.2.1
theorem BSo.c {σ : MS} {A : Ofc} (H : BSo σ A) : ∀ k, k < A.N → sI σ 104 k = nI (A.cc k) := H.2.2.2.2.2.1
theorem BSo.w {σ : MS} {A : Ofc} (H : BSo σ A) : ∀ k, k < A.N → sI σ 110 k = nI (A.bsX.2 k) := H.2.2.2.2.2.2
theorem BSo.mk {σ : MS} {A : Ofc} (wi : sI σ 103 11 = nI A.wide) (la : ∀ c, c < 20 → sI σ 111 c = oI (A.who c)) (al : ∀ p q, p < A.np → q < A.np → sI σ 112 (p * 8 + q) = nI (A.like p q)) (to : sI σ 103 0 = nI A.bst) (n : sI σ 103 2 = nI A.N) (c : ∀ k, k < A.N → sI σ 104 k = nI (A.cc k)) (w : ∀ k, k < A.N → sI σ 110 k = nI (A.bsX.2 k)) : BSo σ A := ⟨wi, la, al, to, n, c, w⟩
def BCa (σ : MS) : Prop := (∃ f : Nat → Nat, (∀ j, f j < 2 ^ 31) ∧ ∀ j, j < 29 → sI σ 108 j = nI (f j)) ∧ (sI σ 103 11 = nI 0 ∨ ∃ A, OfcOk A ∧ BSo σ A)
section SKX
variable {d : Nat} {σ τ ρ : MS} {a : Nat} {A A' : Ofc} {K : Option Value → MS → Prop}
theorem bsX_ge (O : OfcOk A) : A.whole + 1 ≤ A.bsX.1 := by
  have h8 := O.p8
  exact srch_has (g := gAd A.wBe A.like) A.N 0 (fun _ => 0) A.lie 0 (0, fun _ => 0) (hasW_of (fun i hi => by have := (yw_is O hi).2.2; omega) (fun i j hi hj e => yw_inj O hi hj e) A.N 0 (fun _ => 0) A.lie 0 A.whole (by omega) (fun i hi => absurd hi (Nat.not_lt_zero i)) (fun i _ hi => (yw_is O hi).2.1) (by rw [Nat.zero_add, whole_yw O]))
theorem bsX_lt (k : Nat) : A.bsX.2 k < 8 := srch_lt _ _ _ _ _ _ (fun _ => (by decide : (0 : Nat) < 8)) (fun _ => (by decide : (0 : Nat) < 8)) k
theorem srP_bsX (O : OfcOk A) {n : Nat} {f : Nat → Nat} (h : Dsc n f) (hz : ∀ i, n < i → f i = 0) (fV : ∀ i, f i ≤ 72) (hc : ∀ θ, sm 8 (fun q => sm q (fun p => if A.lie p = true ∧ A.lie q = true then ge1 θ (A.like p q) else 0)) = sm n (fun i => ge1 θ (f (i + 1)))) (t2 : Nat → Nat) : srP (gAd A.wBe A.like) (fun k => sm (cfs A.wBe A.N k) (fun i => f (i + 1))) A.N 0 (fun _ => 0) A.lie 0 (A.whole, t2) = A.bsX := by
  have h8 := O.p8
  have y1 : ∀ i, i < A.N → A.yw i < 8 := fun i hi => by have := (yw_is O hi).2.2; omega
  have y2 : ∀ i j, i < A.N → j < A.N → A.yw i = A.yw j → i = j := fun i j hi hj e => yw_inj O hi hj e
  have al := add_le (w := A.wBe) (F := A.like) (P := A.lie) (N := A.N) (V := 72) (N8 O) like_comm (fun p q _ _ => like72 O p q) fV h hz hc (t := A.yw) (fun i hi => ⟨y1 i hi, (yw_is O hi).2.1⟩) y2 0
  rw [whole_yw O] at al
  rw [best_eq (w := A.wBe) (F := A.like) (P := A.lie) (N := A.N) (V := 72) (N8 O) like_comm (fun p q _ _ => like72 O p q) fV h hz hc A.N 0 (fun _ => 0) A.lie 0 (A.whole, t2) (by omega) ⟨fun i hi => absurd hi (Nat.not_lt_zero i), fun i j hi => absurd hi (Nat.not_lt_zero i), fun q hq => ⟨hq, fun i hi => absurd hi (Nat.not_lt_zero i)⟩⟩ (by show A.whole < _; omega)]
  exact best_start y1 y2 (fun i hi => (yw_is O hi).2.1) (by rw [whole_yw O]; exact Nat.le_refl _) t2 (fun _ => 0)
/-- as before: the same -/
theorem BSo.same (O : OfcOk A) (O' : OfcOk A') (S : BSo σ A') (hw : sI σ 103 11 = nI A.wide) (hl : ∀ c, c < 20 → sI σ 111 c = oI (A.who c)) (ha : ∀ p q, p < A.np → q < A.np → sI σ 112 (p * 8 + q) = nI (A.like p q)) : BSo σ A := by
  have h20 := cells20 O
  have h20' := cells20 O'
  have w5 := O.w5
  have w5' := O'.w5
  have ew : A'.wide = A.wide := by
    have := S.wi.symm.trans hw
    rwa [nI_eq (by omega) (by omega)] at this
  have oi : ∀ o o' : Option Nat, (∀ k, o = some k → k < 2 ^ 31) → (∀ k, o' = some k → k < 2 ^ 31) → oI o = oI o' → o = o' := fun o o' h1 h2 h => by
    cases o' with
    | none => rw [show oI none = -nI 1 from rfl, oI_none o h1] at h; exact h
    | some k => rw [show oI (some k) = nI k from rfl, oI_eq o h1 (h2 k rfl)] at h; exact h
  have ewho : ∀ c, c < 20 → A'.who c = A.who c := fun c hc => oi _ _ (who31 c) (who31 c) ((S.la c hc).symm.trans (hl c hc))
  have eocc : A'.occ = A.occ := by
    funext c
    by_cases hc : c < 20
    · unfold Ofc.occ; rw [ewho c hc]
    · cases h1 : A'.occ c with
      | true => have := occ_c O' h1; omega
      | false =>
        cases h2 : A.occ c with
        | true => have := occ_c O h2; omega
        | false => rfl
  have cN : ∀ (B : Ofc), OfcOk B → ∀ k, nth B.occ 20 k = nth B.occ (B.wide * B.high) k := fun B OB k => nth_ext (cells20 OB) (fun i hi => by
    cases h : B.occ i with
    | false => rfl
    | true => have := occ_c OB h; omega)
  have ecc : A'.cc = A.cc := by
    funext k
    unfold Ofc.cc
    rw [← cN A' O' k, ← cN A O k, eocc]
  have eN : A'.N = A.N := by
    have e : ∀ (B : Ofc), OfcOk B → B.N = ct B.occ 20 := fun B OB => by
      rw [← N_occ OB]
      exact (ct_ext (cells20 OB) (fun i h1 _ => by
        cases h : B.occ i with
        | false => rfl
        | true => have := occ_c OB h; omega)).symm
    rw [e A' O', e A O, eocc]
  have elie : A'.lie = A.lie := by
    have key : ∀ (B B' : Ofc), OfcOk B → OfcOk B' → (∀ c, c < 20 → B.who c = B'.who c) → ∀ p, B.lie p = true → B'.lie p = true := fun B B' OB OB' h p hp => by
      unfold Ofc.lie at hp
      cases hc : B.pl p with
      | none => rw [hc] at hp; cases hp
      | some c =>
        have c20 := cells20 OB
        have := OB.plc p c hc
        exact who_lie ((h c (by omega)).symm.trans ((who_iff OB).mpr hc))
    funext p
    cases h1 : A'.lie p with
    | true => exact (key A' A O' O ewho p h1).symm
    | false =>
      cases h2 : A.lie p with
      | true => rw [key A A' O O' (fun c hc => (ewho c hc).symm) p h2] at h1; cases h1
      | false => rfl
  have elike : ∀ p q, A.lie p = true → A.lie q = true → A'.like p q = A.like p q := fun p q hp hq => by
    have hp' := lie_np O' (by rw [elie]; exact hp)
    have hq' := lie_np O' (by rw [elie]; exact hq)
    have := (S.al p q hp' hq').symm.trans (ha p q (lie_np O hp) (lie_np O hq))
    have l1 := like72 O p q
    have l2 := like72 O' p q
    rwa [nI_eq (by omega) (by omega)] at this
  have eX : A'.bsX = A.bsX := by
    unfold Ofc.bsX
    rw [eN, elie]
    refine srch_congr (P := A.lie) (N := A.N) (fun k t p hk ht hp => ?_) A.N 0 _ _ _ _ (by omega) (fun i hi => absurd hi (Nat.not_lt_zero i)) (fun q hq => hq)
    unfold gAd
    refine sm_congr (fun i hi => ?_)
    have : A'.wBe i k = A.wBe i k := by
      unfold Ofc.wBe Ofc.bes
      rw [ecc, ew]
    rw [this, elike _ _ (ht i hi) hp]
  refine BSo.mk hw hl ha ?_ ?_ ?_ ?_
  · rw [S.to]; unfold Ofc.bst; rw [eX]
  · rw [S.n, eN]
  · intro k hk; rw [S.c k (by omega), ecc]
  · intro k hk; rw [S.w k (by omega), eX]
theorem c_sameLoop1 (B : RBk σ) (H : ROff σ a A) : ∀ (m i : Nat) (s : Bool), i + m = 20 → zX d 2 19 [.ref 103, .ref a, .int (bI s), .int (nI i)] [] σ K = zX d 2 58 [.ref 103, .ref a, .int (bI (s && allEq (sI σ 111) (sI σ (a + 8)) m i)), .int (nI 0)] [] σ K := by
  intro m
  induction m with
  | zero =>
    intro i s hi
    have hi : i = 20 := by omega
    subst hi
    rw [L_2_19, zt_2_19, show allEq (sI σ 111) (sI σ (a + 8)) 0 20 = true from rfl, Bool.and_true]
    simp (disch := omega) only [L_2_56, zt_2_56, ↓e_iconst0, ↓e_iconst1, ↓e_bipush0, ↓e_bipush1, ↓e_sipush0, ↓e_sipush1, ↓e_ldc0, ↓e_ldc1, ↓e_ldc_w0, ↓e_ldc_w1, ↓e_ldc2, ↓e_lconst0, ↓e_lconst1, ↓e_ldc2_w0, ↓e_ldc2_w1, ↓e_iload, ↓e_iload_n, ↓e_istore, ↓e_istore_n, ↓e_lload, ↓e_lload_n, ↓e_lstore, ↓e_lstore_n, ↓e_aload, ↓e_aload_n, ↓e_astore, ↓e_astore_n, ↓e_iinc0, ↓e_iinc1, ↓e_iadd, ↓e_isub, ↓e_imul, ↓e_iand, ↓e_ior, ↓e_ixor, ↓e_ishl, ↓e_ishr, ↓e_iushr, ↓e_ladd, ↓e_lsub, ↓e_lmul, ↓e_land, ↓e_lor, ↓e_idiv, ↓e_irem, ↓e_ldiv, ↓e_lrem, ↓e_lshl, ↓e_lcmp, ↓e_i2l, ↓e_l2i, ↓e_i2b, ↓e_i2s, ↓e_dup_int, ↓e_pop_int, ↓e_dup_ref, ↓e_pop_ref, ↓e_dup2, ↓e_goto, ↓e_nop, ↓e_ifCond_eq, ↓e_if_icmp_eq, ↓e_ifCond_ne, ↓e_if_icmp_ne, ↓e_ifCond_lt, ↓e_if_icmp_lt, ↓e_ifCond_ge, ↓e_if_icmp_ge, ↓e_ifCond_gt, ↓e_if_icmp_gt, ↓e_ifCond_le, ↓e_if_icmp_le, ↓e_tab, ↓e_look, ↓e_get0, ↓e_get1, ↓e_get2, ↓e_get3, ↓e_put0, ↓e_put1, ↓e_put2, ↓e_put3, ↓e_iaload, ↓e_laload, ↓e_baload, ↓e_aaload, ↓e_iastore, ↓e_lastore, ↓e_bastore, ↓e_aastore, ↓e_alen, ↓e_new, ↓e_newarray, ↓e_anewarray, ↓e_objinit, ↓e_virt1, ↓e_virt2, ↓e_virt3, ↓e_virt4, ↓e_virt5, ↓e_virt6, ↓e_virt7, ↓e_stat0, ↓e_stat1, ↓e_stat2, ↓e_stat3, ↓e_stat4, ↓e_stat5, ↓e_stat6, ↓e_stat7, ↓e_spec1, ↓e_spec2, ↓e_spec3, ↓e_spec4, ↓e_spec5, ↓e_strlen, ↓e_charAt, ↓e_copy, ↓e_iret0, ↓e_iret1, ↓e_lret, ↓e_aret, ↓e_vret, zIsI_int, zIsL_long, zIsA_ref, zInt_int, true_and, and_true, ↓reduceIte, zGet, zSet, zSet2, zEnt, zWid, Value.category, List.map_cons, List.map_nil, List.sum_cons, List.sum_nil, List.replicate, Option.toList, Nat.reduceAdd, Nat.reduceSub, Nat.reduceMul, Nat.reduceLeDiff, Nat.reduceEqDiff, Nat.reduceLT, List.cons_append, List.nil_append, true_or, or_true, or_false, false_or, nI_ltI, nI_leI, nI_eq, nI_clamp, zIn_nI, bI_0, nI_add, nI_mul, nI_or, nI_and, nI_shl1, nI_bit, ↓pk_rem, pk_div, Nat.lt_irrefl, Nat.not_lt_zero, reduceCtorEq]
  | succ m ih =>
    intro i s hi
    have h20 : i < 20 := by omega
    unfold allEq
    rw [L_2_19, zt_2_19]
    cases s with
    | false => simp (disch := omega) only [L_2_56, zt_2_56, ↓e_iconst0, ↓e_iconst1, ↓e_bipush0, ↓e_bipush1, ↓e_sipush0, ↓e_sipush1, ↓e_ldc0, ↓e_ldc1, ↓e_ldc_w0, ↓e_ldc_w1, ↓e_ldc2, ↓e_lconst0, ↓e_lconst1, ↓e_ldc2_w0, ↓e_ldc2_w1, ↓e_iload, ↓e_iload_n, ↓e_istore, ↓e_istore_n, ↓e_lload, ↓e_lload_n, ↓e_lstore, ↓e_lstore_n, ↓e_aload, ↓e_aload_n, ↓e_astore, ↓e_astore_n, ↓e_iinc0, ↓e_iinc1, ↓e_iadd, ↓e_isub, ↓e_imul, ↓e_iand, ↓e_ior, ↓e_ixor, ↓e_ishl, ↓e_ishr, ↓e_iushr, ↓e_ladd, ↓e_lsub, ↓e_lmul, ↓e_land, ↓e_lor, ↓e_idiv, ↓e_irem, ↓e_ldiv, ↓e_lrem, ↓e_lshl, ↓e_lcmp, ↓e_i2l, ↓e_l2i, ↓e_i2b, ↓e_i2s, ↓e_dup_int, ↓e_pop_int, ↓e_dup_ref, ↓e_pop_ref, ↓e_dup2, ↓e_goto, ↓e_nop, ↓e_ifCond_eq, ↓e_if_icmp_eq, ↓e_ifCond_ne, ↓e_if_icmp_ne, ↓e_ifCond_lt, ↓e_if_icmp_lt, ↓e_ifCond_ge, ↓e_if_icmp_ge, ↓e_ifCond_gt, ↓e_if_icmp_gt, ↓e_ifCond_le, ↓e_if_icmp_le, ↓e_tab, ↓e_look, ↓e_get0, ↓e_get1, ↓e_get2, ↓e_get3, ↓e_put0, ↓e_put1, ↓e_put2, ↓e_put3, ↓e_iaload, ↓e_laload, ↓e_baload, ↓e_aaload, ↓e_iastore, ↓e_lastore, ↓e_bastore, ↓e_aastore, ↓e_alen, ↓e_new, ↓e_newarray, ↓e_anewarray, ↓e_objinit, ↓e_virt1, ↓e_virt2, ↓e_virt3, ↓e_virt4, ↓e_virt5, ↓e_virt6, ↓e_virt7, ↓e_stat0, ↓e_stat1, ↓e_stat2, ↓e_stat3, ↓e_stat4, ↓e_stat5, ↓e_stat6, ↓e_stat7, ↓e_spec1, ↓e_spec2, ↓e_spec3, ↓e_spec4, ↓e_spec5, ↓e_strlen, ↓e_charAt, ↓e_copy, ↓e_iret0, ↓e_iret1, ↓e_lret, ↓e_aret, ↓e_vret, zIsI_int, zIsL_long, zIsA_ref, zInt_int, true_and, and_true, ↓reduceIte, zGet, zSet, zSet2, zEnt, zWid, Value.category, List.map_cons, List.map_nil, List.sum_cons, List.sum_nil, List.replicate, Option.toList, Nat.reduceAdd, Nat.reduceSub, Nat.reduceMul, Nat.reduceLeDiff, Nat.reduceEqDiff, Nat.reduceLT, List.cons_append, List.nil_append, true_or, or_true, or_false, false_or, nI_ltI, nI_leI, nI_eq, nI_clamp, zIn_nI, bI_0, nI_add, nI_mul, nI_or, nI_and, nI_shl1, nI_bit, ↓pk_rem, pk_div, Nat.lt_irrefl, Nat.not_lt_zero, reduceCtorEq, h20, show bI false = nI 0 from rfl, Bool.false_and]
    | true =>
      by_cases h : sI σ 111 i = sI σ (a + 8) i
      · have e := ih (i + 1) true (by omega)
        rw [show bI true = nI 1 from rfl] at e ⊢
        simp (disch := omega) only [L_2_48, zt_2_48, L_2_49, zt_2_49, ↓e_iconst0, ↓e_iconst1, ↓e_bipush0, ↓e_bipush1, ↓e_sipush0, ↓e_sipush1, ↓e_ldc0, ↓e_ldc1, ↓e_ldc_w0, ↓e_ldc_w1, ↓e_ldc2, ↓e_lconst0, ↓e_lconst1, ↓e_ldc2_w0, ↓e_ldc2_w1, ↓e_iload, ↓e_iload_n, ↓e_istore, ↓e_istore_n, ↓e_lload, ↓e_lload_n, ↓e_lstore, ↓e_lstore_n, ↓e_aload, ↓e_aload_n, ↓e_astore, ↓e_astore_n, ↓e_iinc0, ↓e_iinc1, ↓e_iadd, ↓e_isub, ↓e_imul, ↓e_iand, ↓e_ior, ↓e_ixor, ↓e_ishl, ↓e_ishr, ↓e_iushr, ↓e_ladd, ↓e_lsub, ↓e_lmul, ↓e_land, ↓e_lor, ↓e_idiv, ↓e_irem, ↓e_ldiv, ↓e_lrem, ↓e_lshl, ↓e_lcmp, ↓e_i2l, ↓e_l2i, ↓e_i2b, ↓e_i2s, ↓e_dup_int, ↓e_pop_int, ↓e_dup_ref, ↓e_pop_ref, ↓e_dup2, ↓e_goto, ↓e_nop, ↓e_ifCond_eq, ↓e_if_icmp_eq, ↓e_ifCond_ne, ↓e_if_icmp_ne, ↓e_ifCond_lt, ↓e_if_icmp_lt, ↓e_ifCond_ge, ↓e_if_icmp_ge, ↓e_ifCond_gt, ↓e_if_icmp_gt, ↓e_ifCond_le, ↓e_if_icmp_le, ↓e_tab, ↓e_look, ↓e_get0, ↓e_get1, ↓e_get2, ↓e_get3, ↓e_put0, ↓e_put1, ↓e_put2, ↓e_put3, ↓e_iaload, ↓e_laload, ↓e_baload, ↓e_aaload, ↓e_iastore, ↓e_lastore, ↓e_bastore, ↓e_aastore, ↓e_alen, ↓e_new, ↓e_newarray, ↓e_anewarray, ↓e_objinit, ↓e_virt1, ↓e_virt2, ↓e_virt3, ↓e_virt4, ↓e_virt5, ↓e_virt6, ↓e_virt7, ↓e_stat0, ↓e_stat1, ↓e_stat2, ↓e_stat3, ↓e_stat4, ↓e_stat5, ↓e_stat6, ↓e_stat7, ↓e_spec1, ↓e_spec2, ↓e_spec3, ↓e_spec4, ↓e_spec5, ↓e_strlen, ↓e_charAt, ↓e_copy, ↓e_iret0, ↓e_iret1, ↓e_lret, ↓e_aret, ↓e_vret, zIsI_int, zIsL_long, zIsA_ref, zInt_int, true_and, and_true, ↓reduceIte, zGet, zSet, zSet2, zEnt, zWid, Value.category, List.map_cons, List.map_nil, List.sum_cons, List.sum_nil, List.replicate, Option.toList, Nat.reduceAdd, Nat.reduceSub, Nat.reduceMul, Nat.reduceLeDiff, Nat.reduceEqDiff, Nat.reduceLT, List.cons_append, List.nil_append, true_or, or_true, or_false, false_or, H.k, H.i0, H.i1, H.i2, H.i3, H.i4, H.i5, H.i6, H.i7, H.r8, H.r9, H.r10, H.r11, H.r12, H.r13, H.r14, H.r15, H.r16, H.r17, H.r18, H.k1, H.k2, H.k3, H.k4, H.k5, H.k6, H.k7, H.k8, H.k9, H.k10, H.k11, nI_ltI, nI_leI, nI_eq, nI_clamp, zIn_nI, bI_0, nI_add, nI_mul, nI_or, nI_and, nI_shl1, nI_bit, ↓pk_rem, pk_div, Nat.lt_irrefl, Nat.not_lt_zero, reduceCtorEq, B.k, B.r12, B.k111, h20, h, e]
      · have e := ih (i + 1) false (by omega)
        rw [show bI false = nI 0 from rfl, Bool.false_and] at e
        rw [show bI true = nI 1 from rfl, if_neg h, Bool.and_false]
        simp (disch := omega) only [L_2_48, zt_2_48, L_2_49, zt_2_49, ↓e_iconst0, ↓e_iconst1, ↓e_bipush0, ↓e_bipush1, ↓e_sipush0, ↓e_sipush1, ↓e_ldc0, ↓e_ldc1, ↓e_ldc_w0, ↓e_ldc_w1, ↓e_ldc2, ↓e_lconst0, ↓e_lconst1, ↓e_ldc2_w0, ↓e_ldc2_w1, ↓e_iload, ↓e_iload_n, ↓e_istore, ↓e_istore_n, ↓e_lload, ↓e_lload_n, ↓e_lstore, ↓e_lstore_n, ↓e_aload, ↓e_aload_n, ↓e_astore, ↓e_astore_n, ↓e_iinc0, ↓e_iinc1, ↓e_iadd, ↓e_isub, ↓e_imul, ↓e_iand, ↓e_ior, ↓e_ixor, ↓e_ishl, ↓e_ishr, ↓e_iushr, ↓e_ladd, ↓e_lsub, ↓e_lmul, ↓e_land, ↓e_lor, ↓e_idiv, ↓e_irem, ↓e_ldiv, ↓e_lrem, ↓e_lshl, ↓e_lcmp, ↓e_i2l, ↓e_l2i, ↓e_i2b, ↓e_i2s, ↓e_dup_int, ↓e_pop_int, ↓e_dup_ref, ↓e_pop_ref, ↓e_dup2, ↓e_goto, ↓e_nop, ↓e_ifCond_eq, ↓e_if_icmp_eq, ↓e_ifCond_ne, ↓e_if_icmp_ne, ↓e_ifCond_lt, ↓e_if_icmp_lt, ↓e_ifCond_ge, ↓e_if_icmp_ge, ↓e_ifCond_gt, ↓e_if_icmp_gt, ↓e_ifCond_le, ↓e_if_icmp_le, ↓e_tab, ↓e_look, ↓e_get0, ↓e_get1, ↓e_get2, ↓e_get3, ↓e_put0, ↓e_put1, ↓e_put2, ↓e_put3, ↓e_iaload, ↓e_laload, ↓e_baload, ↓e_aaload, ↓e_iastore, ↓e_lastore, ↓e_bastore, ↓e_aastore, ↓e_alen, ↓e_new, ↓e_newarray, ↓e_anewarray, ↓e_objinit, ↓e_virt1, ↓e_virt2, ↓e_virt3, ↓e_virt4, ↓e_virt5, ↓e_virt6, ↓e_virt7, ↓e_stat0, ↓e_stat1, ↓e_stat2, ↓e_stat3, ↓e_stat4, ↓e_stat5, ↓e_stat6, ↓e_stat7, ↓e_spec1, ↓e_spec2, ↓e_spec3, ↓e_spec4, ↓e_spec5, ↓e_strlen, ↓e_charAt, ↓e_copy, ↓e_iret0, ↓e_iret1, ↓e_lret, ↓e_aret, ↓e_vret, zIsI_int, zIsL_long, zIsA_ref, zInt_int, true_and, and_true, ↓reduceIte, zGet, zSet, zSet2, zEnt, zWid, Value.category, List.map_cons, List.map_nil, List.sum_cons, List.sum_nil, List.replicate, Option.toList, Nat.reduceAdd, Nat.reduceSub, Nat.reduceMul, Nat.reduceLeDiff, Nat.reduceEqDiff, Nat.reduceLT, List.cons_append, List.nil_append, true_or, or_true, or_false, false_or, H.k, H.i0, H.i1, H.i2, H.i3, H.i4, H.i5, H.i6, H.i7, H.r8, H.r9, H.r10, H.r11, H.r12, H.r13, H.r14, H.r15, H.r16, H.r17, H.r18, H.k1, H.k2, H.k3, H.k4, H.k5, H.k6, H.k7, H.k8, H.k9, H.k10, H.k11, nI_ltI, nI_leI, nI_eq, nI_clamp, zIn_nI, bI_0, nI_add, nI_mul, nI_or, nI_and, nI_shl1, nI_bit, ↓pk_rem, pk_div, Nat.lt_irrefl, Nat.not_lt_zero, reduceCtorEq, B.k, B.r12, B.k111, h20, h, e]
theorem c_sameLoop2 (B : RBk σ) (H : ROff σ a A) : ∀ (m i : Nat) (s : Bool), i + m = 64 → zX d 2 58 [.ref 103, .ref a, .int (bI s), .int (nI i)] [] σ K = K (some (.int (bI (s && allEq (sI σ 112) (sI σ (a + 10)) m i)))) σ := by
  intro m
  induction m with
  | zero =>
    intro i s hi
    have hi : i = 64 := by omega
    subst hi
    rw [L_2_58, zt_2_58, show allEq (sI σ 112) (sI σ (a + 10)) 0 64 = true from rfl, Bool.and_true]
    cases s <;> simp (disch := omega) only [L_2_95, zt_2_95, ↓e_iconst0, ↓e_iconst1, ↓e_bipush0, ↓e_bipush1, ↓e_sipush0, ↓e_sipush1, ↓e_ldc0, ↓e_ldc1, ↓e_ldc_w0, ↓e_ldc_w1, ↓e_ldc2, ↓e_lconst0, ↓e_lconst1, ↓e_ldc2_w0, ↓e_ldc2_w1, ↓e_iload, ↓e_iload_n, ↓e_istore, ↓e_istore_n, ↓e_lload, ↓e_lload_n, ↓e_lstore, ↓e_lstore_n, ↓e_aload, ↓e_aload_n, ↓e_astore, ↓e_astore_n, ↓e_iinc0, ↓e_iinc1, ↓e_iadd, ↓e_isub, ↓e_imul, ↓e_iand, ↓e_ior, ↓e_ixor, ↓e_ishl, ↓e_ishr, ↓e_iushr, ↓e_ladd, ↓e_lsub, ↓e_lmul, ↓e_land, ↓e_lor, ↓e_idiv, ↓e_irem, ↓e_ldiv, ↓e_lrem, ↓e_lshl, ↓e_lcmp, ↓e_i2l, ↓e_l2i, ↓e_i2b, ↓e_i2s, ↓e_dup_int, ↓e_pop_int, ↓e_dup_ref, ↓e_pop_ref, ↓e_dup2, ↓e_goto, ↓e_nop, ↓e_ifCond_eq, ↓e_if_icmp_eq, ↓e_ifCond_ne, ↓e_if_icmp_ne, ↓e_ifCond_lt, ↓e_if_icmp_lt, ↓e_ifCond_ge, ↓e_if_icmp_ge, ↓e_ifCond_gt, ↓e_if_icmp_gt, ↓e_ifCond_le, ↓e_if_icmp_le, ↓e_tab, ↓e_look, ↓e_get0, ↓e_get1, ↓e_get2, ↓e_get3, ↓e_put0, ↓e_put1, ↓e_put2, ↓e_put3, ↓e_iaload, ↓e_laload, ↓e_baload, ↓e_aaload, ↓e_iastore, ↓e_lastore, ↓e_bastore, ↓e_aastore, ↓e_alen, ↓e_new, ↓e_newarray, ↓e_anewarray, ↓e_objinit, ↓e_virt1, ↓e_virt2, ↓e_virt3, ↓e_virt4, ↓e_virt5, ↓e_virt6, ↓e_virt7, ↓e_stat0, ↓e_stat1, ↓e_stat2, ↓e_stat3, ↓e_stat4, ↓e_stat5, ↓e_stat6, ↓e_stat7, ↓e_spec1, ↓e_spec2, ↓e_spec3, ↓e_spec4, ↓e_spec5, ↓e_strlen, ↓e_charAt, ↓e_copy, ↓e_iret0, ↓e_iret1, ↓e_lret, ↓e_aret, ↓e_vret, zIsI_int, zIsL_long, zIsA_ref, zInt_int, true_and, and_true, ↓reduceIte, zGet, zSet, zSet2, zEnt, zWid, Value.category, List.map_cons, List.map_nil, List.sum_cons, List.sum_nil, List.replicate, Option.toList, Nat.reduceAdd, Nat.reduceSub, Nat.reduceMul, Nat.reduceLeDiff, Nat.reduceEqDiff, Nat.reduceLT, List.cons_append, List.nil_append, true_or, or_true, or_false, false_or, nI_ltI, nI_leI, nI_eq, nI_clamp, zIn_nI, bI_0, nI_add, nI_mul, nI_or, nI_and, nI_shl1, nI_bit, ↓pk_rem, pk_div, Nat.lt_irrefl, Nat.not_lt_zero, reduceCtorEq, show bI false = nI 0 from rfl, show bI true = nI 1 from rfl]
  | succ m ih =>
    intro i s hi
    have h20 : i < 64 := by omega
    unfold allEq
    rw [L_2_58, zt_2_58]
    cases s with
    | false => simp (disch := omega) only [L_2_95, zt_2_95, ↓e_iconst0, ↓e_iconst1, ↓e_bipush0, ↓e_bipush1, ↓e_sipush0, ↓e_sipush1, ↓e_ldc0, ↓e_ldc1, ↓e_ldc_w0, ↓e_ldc_w1, ↓e_ldc2, ↓e_lconst0, ↓e_lconst1, ↓e_ldc2_w0, ↓e_ldc2_w1, ↓e_iload, ↓e_iload_n, ↓e_istore, ↓e_istore_n, ↓e_lload, ↓e_lload_n, ↓e_lstore, ↓e_lstore_n, ↓e_aload, ↓e_aload_n, ↓e_astore, ↓e_astore_n, ↓e_iinc0, ↓e_iinc1, ↓e_iadd, ↓e_isub, ↓e_imul, ↓e_iand, ↓e_ior, ↓e_ixor, ↓e_ishl, ↓e_ishr, ↓e_iushr, ↓e_ladd, ↓e_lsub, ↓e_lmul, ↓e_land, ↓e_lor, ↓e_idiv, ↓e_irem, ↓e_ldiv, ↓e_lrem, ↓e_lshl, ↓e_lcmp, ↓e_i2l, ↓e_l2i, ↓e_i2b, ↓e_i2s, ↓e_dup_int, ↓e_pop_int, ↓e_dup_ref, ↓e_pop_ref, ↓e_dup2, ↓e_goto, ↓e_nop, ↓e_ifCond_eq, ↓e_if_icmp_eq, ↓e_ifCond_ne, ↓e_if_icmp_ne, ↓e_ifCond_lt, ↓e_if_icmp_lt, ↓e_ifCond_ge, ↓e_if_icmp_ge, ↓e_ifCond_gt, ↓e_if_icmp_gt, ↓e_ifCond_le, ↓e_if_icmp_le, ↓e_tab, ↓e_look, ↓e_get0, ↓e_get1, ↓e_get2, ↓e_get3, ↓e_put0, ↓e_put1, ↓e_put2, ↓e_put3, ↓e_iaload, ↓e_laload, ↓e_baload, ↓e_aaload, ↓e_iastore, ↓e_lastore, ↓e_bastore, ↓e_aastore, ↓e_alen, ↓e_new, ↓e_newarray, ↓e_anewarray, ↓e_objinit, ↓e_virt1, ↓e_virt2, ↓e_virt3, ↓e_virt4, ↓e_virt5, ↓e_virt6, ↓e_virt7, ↓e_stat0, ↓e_stat1, ↓e_stat2, ↓e_stat3, ↓e_stat4, ↓e_stat5, ↓e_stat6, ↓e_stat7, ↓e_spec1, ↓e_spec2, ↓e_spec3, ↓e_spec4, ↓e_spec5, ↓e_strlen, ↓e_charAt, ↓e_copy, ↓e_iret0, ↓e_iret1, ↓e_lret, ↓e_aret, ↓e_vret, zIsI_int, zIsL_long, zIsA_ref, zInt_int, true_and, and_true, ↓reduceIte, zGet, zSet, zSet2, zEnt, zWid, Value.category, List.map_cons, List.map_nil, List.sum_cons, List.sum_nil, List.replicate, Option.toList, Nat.reduceAdd, Nat.reduceSub, Nat.reduceMul, Nat.reduceLeDiff, Nat.reduceEqDiff, Nat.reduceLT, List.cons_append, List.nil_append, true_or, or_true, or_false, false_or, nI_ltI, nI_leI, nI_eq, nI_clamp, zIn_nI, bI_0, nI_add, nI_mul, nI_or, nI_and, nI_shl1, nI_bit, ↓pk_rem, pk_div, Nat.lt_irrefl, Nat.not_lt_zero, reduceCtorEq, h20, show bI false = nI 0 from rfl, Bool.false_and]
    | true =>
      by_cases h : sI σ 112 i = sI σ (a + 10) i
      · have e := ih (i + 1) true (by omega)
        rw [show bI true = nI 1 from rfl] at e ⊢
        simp (disch := omega) only [L_2_87, zt_2_87, L_2_88, zt_2_88, ↓e_iconst0, ↓e_iconst1, ↓e_bipush0, ↓e_bipush1, ↓e_sipush0, ↓e_sipush1, ↓e_ldc0, ↓e_ldc1, ↓e_ldc_w0, ↓e_ldc_w1, ↓e_ldc2, ↓e_lconst0, ↓e_lconst1, ↓e_ldc2_w0, ↓e_ldc2_w1, ↓e_iload, ↓e_iload_n, ↓e_istore, ↓e_istore_n, ↓e_lload, ↓e_lload_n, ↓e_lstore, ↓e_lstore_n, ↓e_aload, ↓e_aload_n, ↓e_astore, ↓e_astore_n, ↓e_iinc0, ↓e_iinc1, ↓e_iadd, ↓e_isub, ↓e_imul, ↓e_iand, ↓e_ior, ↓e_ixor, ↓e_ishl, ↓e_ishr, ↓e_iushr, ↓e_ladd, ↓e_lsub, ↓e_lmul, ↓e_land, ↓e_lor, ↓e_idiv, ↓e_irem, ↓e_ldiv, ↓e_lrem, ↓e_lshl, ↓e_lcmp, ↓e_i2l, ↓e_l2i, ↓e_i2b, ↓e_i2s, ↓e_dup_int, ↓e_pop_int, ↓e_dup_ref, ↓e_pop_ref, ↓e_dup2, ↓e_goto, ↓e_nop, ↓e_ifCond_eq, ↓e_if_icmp_eq, ↓e_ifCond_ne, ↓e_if_icmp_ne, ↓e_ifCond_lt, ↓e_if_icmp_lt, ↓e_ifCond_ge, ↓e_if_icmp_ge, ↓e_ifCond_gt, ↓e_if_icmp_gt, ↓e_ifCond_le, ↓e_if_icmp_le, ↓e_tab, ↓e_look, ↓e_get0, ↓e_get1, ↓e_get2, ↓e_get3, ↓e_put0, ↓e_put1, ↓e_put2, ↓e_put3, ↓e_iaload, ↓e_laload, ↓e_baload, ↓e_aaload, ↓e_iastore, ↓e_lastore, ↓e_bastore, ↓e_aastore, ↓e_alen, ↓e_new, ↓e_newarray, ↓e_anewarray, ↓e_objinit, ↓e_virt1, ↓e_virt2, ↓e_virt3, ↓e_virt4, ↓e_virt5, ↓e_virt6, ↓e_virt7, ↓e_stat0, ↓e_stat1, ↓e_stat2, ↓e_stat3, ↓e_stat4, ↓e_stat5, ↓e_stat6, ↓e_stat7, ↓e_spec1, ↓e_spec2, ↓e_spec3, ↓e_spec4, ↓e_spec5, ↓e_strlen, ↓e_charAt, ↓e_copy, ↓e_iret0, ↓e_iret1, ↓e_lret, ↓e_aret, ↓e_vret, zIsI_int, zIsL_long, zIsA_ref, zInt_int, true_and, and_true, ↓reduceIte, zGet, zSet, zSet2, zEnt, zWid, Value.category, List.map_cons, List.map_nil, List.sum_cons, List.sum_nil, List.replicate, Option.toList, Nat.reduceAdd, Nat.reduceSub, Nat.reduceMul, Nat.reduceLeDiff, Nat.reduceEqDiff, Nat.reduceLT, List.cons_append, List.nil_append, true_or, or_true, or_false, false_or, H.k, H.i0, H.i1, H.i2, H.i3, H.i4, H.i5, H.i6, H.i7, H.r8, H.r9, H.r10, H.r11, H.r12, H.r13, H.r14, H.r15, H.r16, H.r17, H.r18, H.k1, H.k2, H.k3, H.k4, H.k5, H.k6, H.k7, H.k8, H.k9, H.k10, H.k11, nI_ltI, nI_leI, nI_eq, nI_clamp, zIn_nI, bI_0, nI_add, nI_mul, nI_or, nI_and, nI_shl1, nI_bit, ↓pk_rem, pk_div, Nat.lt_irrefl, Nat.not_lt_zero, reduceCtorEq, B.k, B.r13, B.k112, h20, h, e]
      · have e := ih (i + 1) false (by omega)
        rw [show bI false = nI 0 from rfl, Bool.false_and] at e
        rw [show bI true = nI 1 from rfl, if_neg h, Bool.and_false]
        simp (disch := omega) only [L_2_87, zt_2_87, L_2_88, zt_2_88, ↓e_iconst0, ↓e_iconst1, ↓e_bipush0, ↓e_bipush1, ↓e_sipush0, ↓e_sipush1, ↓e_ldc0, ↓e_ldc1, ↓e_ldc_w0, ↓e_ldc_w1, ↓e_ldc2, ↓e_lconst0, ↓e_lconst1, ↓e_ldc2_w0, ↓e_ldc2_w1, ↓e_iload, ↓e_iload_n, ↓e_istore, ↓e_istore_n, ↓e_lload, ↓e_lload_n, ↓e_lstore, ↓e_lstore_n, ↓e_aload, ↓e_aload_n, ↓e_astore, ↓e_astore_n, ↓e_iinc0, ↓e_iinc1, ↓e_iadd, ↓e_isub, ↓e_imul, ↓e_iand, ↓e_ior, ↓e_ixor, ↓e_ishl, ↓e_ishr, ↓e_iushr, ↓e_ladd, ↓e_lsub, ↓e_lmul, ↓e_land, ↓e_lor, ↓e_idiv, ↓e_irem, ↓e_ldiv, ↓e_lrem, ↓e_lshl, ↓e_lcmp, ↓e_i2l, ↓e_l2i, ↓e_i2b, ↓e_i2s, ↓e_dup_int, ↓e_pop_int, ↓e_dup_ref, ↓e_pop_ref, ↓e_dup2, ↓e_goto, ↓e_nop, ↓e_ifCond_eq, ↓e_if_icmp_eq, ↓e_ifCond_ne, ↓e_if_icmp_ne, ↓e_ifCond_lt, ↓e_if_icmp_lt, ↓e_ifCond_ge, ↓e_if_icmp_ge, ↓e_ifCond_gt, ↓e_if_icmp_gt, ↓e_ifCond_le, ↓e_if_icmp_le, ↓e_tab, ↓e_look, ↓e_get0, ↓e_get1, ↓e_get2, ↓e_get3, ↓e_put0, ↓e_put1, ↓e_put2, ↓e_put3, ↓e_iaload, ↓e_laload, ↓e_baload, ↓e_aaload, ↓e_iastore, ↓e_lastore, ↓e_bastore, ↓e_aastore, ↓e_alen, ↓e_new, ↓e_newarray, ↓e_anewarray, ↓e_objinit, ↓e_virt1, ↓e_virt2, ↓e_virt3, ↓e_virt4, ↓e_virt5, ↓e_virt6, ↓e_virt7, ↓e_stat0, ↓e_stat1, ↓e_stat2, ↓e_stat3, ↓e_stat4, ↓e_stat5, ↓e_stat6, ↓e_stat7, ↓e_spec1, ↓e_spec2, ↓e_spec3, ↓e_spec4, ↓e_spec5, ↓e_strlen, ↓e_charAt, ↓e_copy, ↓e_iret0, ↓e_iret1, ↓e_lret, ↓e_aret, ↓e_vret, zIsI_int, zIsL_long, zIsA_ref, zInt_int, true_and, and_true, ↓reduceIte, zGet, zSet, zSet2, zEnt, zWid, Value.category, List.map_cons, List.map_nil, List.sum_cons, List.sum_nil, List.replicate, Option.toList, Nat.reduceAdd, Nat.reduceSub, Nat.reduceMul, Nat.reduceLeDiff, Nat.reduceEqDiff, Nat.reduceLT, List.cons_append, List.nil_append, true_or, or_true, or_false, false_or, H.k, H.i0, H.i1, H.i2, H.i3, H.i4, H.i5, H.i6, H.i7, H.r8, H.r9, H.r10, H.r11, H.r12, H.r13, H.r14, H.r15, H.r16, H.r17, H.r18, H.k1, H.k2, H.k3, H.k4, H.k5, H.k6, H.k7, H.k8, H.k9, H.k10, H.k11, nI_ltI, nI_leI, nI_eq, nI_clamp, zIn_nI, bI_0, nI_add, nI_mul, nI_or, nI_and, nI_shl1, nI_bit, ↓pk_rem, pk_div, Nat.lt_irrefl, Nat.not_lt_zero, reduceCtorEq, B.k, B.r13, B.k112, h20, h, e, show bI false = nI 0 from rfl]
def sameB (σ : MS) (a : Nat) (w : Nat) : Bool := decide (sI σ 103 11 = nI w) && allEq (sI σ 111) (sI σ (a + 8)) 20 0 && allEq (sI σ 112) (sI σ (a + 10)) 64 0
theorem c_isAsBefore (B : RBk σ) (H : ROff σ a A) :
   zC (d + 1) 2 [.ref 103, .ref a] σ K = K (some (.int (bI (sameB σ a A.wide)))) σ := by
  rw [E_2]
  unfold sameB
  by_cases h : sI σ 103 11 = nI A.wide
  · have e := c_sameLoop1 (d := d) (K := K) B H 20 0 true rfl
    rw [show bI true = nI 1 from rfl, Bool.true_and] at e
    rw [decide_eq_true h, Bool.true_and]
    simp (disch := omega) only [L_2_0, zt_2_0, L_2_15, zt_2_15, L_2_16, zt_2_16, ↓e_iconst0, ↓e_iconst1, ↓e_bipush0, ↓e_bipush1, ↓e_sipush0, ↓e_sipush1, ↓e_ldc0, ↓e_ldc1, ↓e_ldc_w0, ↓e_ldc_w1, ↓e_ldc2, ↓e_lconst0, ↓e_lconst1, ↓e_ldc2_w0, ↓e_ldc2_w1, ↓e_iload, ↓e_iload_n, ↓e_istore, ↓e_istore_n, ↓e_lload, ↓e_lload_n, ↓e_lstore, ↓e_lstore_n, ↓e_aload, ↓e_aload_n, ↓e_astore, ↓e_astore_n, ↓e_iinc0, ↓e_iinc1, ↓e_iadd, ↓e_isub, ↓e_imul, ↓e_iand, ↓e_ior, ↓e_ixor, ↓e_ishl, ↓e_ishr, ↓e_iushr, ↓e_ladd, ↓e_lsub, ↓e_lmul, ↓e_land, ↓e_lor, ↓e_idiv, ↓e_irem, ↓e_ldiv, ↓e_lrem, ↓e_lshl, ↓e_lcmp, ↓e_i2l, ↓e_l2i, ↓e_i2b, ↓e_i2s, ↓e_dup_int, ↓e_pop_int, ↓e_dup_ref, ↓e_pop_ref, ↓e_dup2, ↓e_goto, ↓e_nop, ↓e_ifCond_eq, ↓e_if_icmp_eq, ↓e_ifCond_ne, ↓e_if_icmp_ne, ↓e_ifCond_lt, ↓e_if_icmp_lt, ↓e_ifCond_ge, ↓e_if_icmp_ge, ↓e_ifCond_gt, ↓e_if_icmp_gt, ↓e_ifCond_le, ↓e_if_icmp_le, ↓e_tab, ↓e_look, ↓e_get0, ↓e_get1, ↓e_get2, ↓e_get3, ↓e_put0, ↓e_put1, ↓e_put2, ↓e_put3, ↓e_iaload, ↓e_laload, ↓e_baload, ↓e_aaload, ↓e_iastore, ↓e_lastore, ↓e_bastore, ↓e_aastore, ↓e_alen, ↓e_new, ↓e_newarray, ↓e_anewarray, ↓e_objinit, ↓e_virt1, ↓e_virt2, ↓e_virt3, ↓e_virt4, ↓e_virt5, ↓e_virt6, ↓e_virt7, ↓e_stat0, ↓e_stat1, ↓e_stat2, ↓e_stat3, ↓e_stat4, ↓e_stat5, ↓e_stat6, ↓e_stat7, ↓e_spec1, ↓e_spec2, ↓e_spec3, ↓e_spec4, ↓e_spec5, ↓e_strlen, ↓e_charAt, ↓e_copy, ↓e_iret0, ↓e_iret1, ↓e_lret, ↓e_aret, ↓e_vret, zIsI_int, zIsL_long, zIsA_ref, zInt_int, true_and, and_true, ↓reduceIte, zGet, zSet, zSet2, zEnt, zWid, Value.category, List.map_cons, List.map_nil, List.sum_cons, List.sum_nil, List.replicate, Option.toList, Nat.reduceAdd, Nat.reduceSub, Nat.reduceMul, Nat.reduceLeDiff, Nat.reduceEqDiff, Nat.reduceLT, List.cons_append, List.nil_append, true_or, or_true, or_false, false_or, H.k, H.i0, H.i1, H.i2, H.i3, H.i4, H.i5, H.i6, H.i7, H.r8, H.r9, H.r10, H.r11, H.r12, H.r13, H.r14, H.r15, H.r16, H.r17, H.r18, H.k1, H.k2, H.k3, H.k4, H.k5, H.k6, H.k7, H.k8, H.k9, H.k10, H.k11, nI_ltI, nI_leI, nI_eq, nI_clamp, zIn_nI, bI_0, nI_add, nI_mul, nI_or, nI_and, nI_shl1, nI_bit, ↓pk_rem, pk_div, Nat.lt_irrefl, Nat.not_lt_zero, reduceCtorEq, B.k, h, e]
    rw [c_sameLoop2 B H 64 0 _ rfl]
  · have e := c_sameLoop1 (d := d) (K := K) B H 20 0 false rfl
    rw [show bI false = nI 0 from rfl, Bool.false_and] at e
    rw [decide_eq_false h, Bool.false_and]
    simp (disch := omega) only [L_2_0, zt_2_0, L_2_15, zt_2_15, L_2_16, zt_2_16, ↓e_iconst0, ↓e_iconst1, ↓e_bipush0, ↓e_bipush1, ↓e_sipush0, ↓e_sipush1, ↓e_ldc0, ↓e_ldc1, ↓e_ldc_w0, ↓e_ldc_w1, ↓e_ldc2, ↓e_lconst0, ↓e_lconst1, ↓e_ldc2_w0, ↓e_ldc2_w1, ↓e_iload, ↓e_iload_n, ↓e_istore, ↓e_istore_n, ↓e_lload, ↓e_lload_n, ↓e_lstore, ↓e_lstore_n, ↓e_aload, ↓e_aload_n, ↓e_astore, ↓e_astore_n, ↓e_iinc0, ↓e_iinc1, ↓e_iadd, ↓e_isub, ↓e_imul, ↓e_iand, ↓e_ior, ↓e_ixor, ↓e_ishl, ↓e_ishr, ↓e_iushr, ↓e_ladd, ↓e_lsub, ↓e_lmul, ↓e_land, ↓e_lor, ↓e_idiv, ↓e_irem, ↓e_ldiv, ↓e_lrem, ↓e_lshl, ↓e_lcmp, ↓e_i2l, ↓e_l2i, ↓e_i2b, ↓e_i2s, ↓e_dup_int, ↓e_pop_int, ↓e_dup_ref, ↓e_pop_ref, ↓e_dup2, ↓e_goto, ↓e_nop, ↓e_ifCond_eq, ↓e_if_icmp_eq, ↓e_ifCond_ne, ↓e_if_icmp_ne, ↓e_ifCond_lt, ↓e_if_icmp_lt, ↓e_ifCond_ge, ↓e_if_icmp_ge, ↓e_ifCond_gt, ↓e_if_icmp_gt, ↓e_ifCond_le, ↓e_if_icmp_le, ↓e_tab, ↓e_look, ↓e_get0, ↓e_get1, ↓e_get2, ↓e_get3, ↓e_put0, ↓e_put1, ↓e_put2, ↓e_put3, ↓e_iaload, ↓e_laload, ↓e_baload, ↓e_aaload, ↓e_iastore, ↓e_lastore, ↓e_bastore, ↓e_aastore, ↓e_alen, ↓e_new, ↓e_newarray, ↓e_anewarray, ↓e_objinit, ↓e_virt1, ↓e_virt2, ↓e_virt3, ↓e_virt4, ↓e_virt5, ↓e_virt6, ↓e_virt7, ↓e_stat0, ↓e_stat1, ↓e_stat2, ↓e_stat3, ↓e_stat4, ↓e_stat5, ↓e_stat6, ↓e_stat7, ↓e_spec1, ↓e_spec2, ↓e_spec3, ↓e_spec4, ↓e_spec5, ↓e_strlen, ↓e_charAt, ↓e_copy, ↓e_iret0, ↓e_iret1, ↓e_lret, ↓e_aret, ↓e_vret, zIsI_int, zIsL_long, zIsA_ref, zInt_int, true_and, and_true, ↓reduceIte, zGet, zSet, zSet2, zEnt, zWid, Value.category, List.map_cons, List.map_nil, List.sum_cons, List.sum_nil, List.replicate, Option.toList, Nat.reduceAdd, Nat.reduceSub, Nat.reduceMul, Nat.reduceLeDiff, Nat.reduceEqDiff, Nat.reduceLT, List.cons_append, List.nil_append, true_or, or_true, or_false, false_or, H.k, H.i0, H.i1, H.i2, H.i3, H.i4, H.i5, H.i6, H.i7, H.r8, H.r9, H.r10, H.r11, H.r12, H.r13, H.r14, H.r15, H.r16, H.r17, H.r18, H.k1, H.k2, H.k3, H.k4, H.k5, H.k6, H.k7, H.k8, H.k9, H.k10, H.k11, nI_ltI, nI_leI, nI_eq, nI_clamp, zIn_nI, bI_0, nI_add, nI_mul, nI_or, nI_and, nI_shl1, nI_bit, ↓pk_rem, pk_div, Nat.lt_irrefl, Nat.not_lt_zero, reduceCtorEq, B.k, h, e]
    rw [c_sameLoop2 B H 64 0 _ rfl]
end SKX
