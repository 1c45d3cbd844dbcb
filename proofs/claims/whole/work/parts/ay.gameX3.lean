/-! GAMES, the class: game and moveOf -/
def Ofc.qGame (A : Ofc) (v : Int32) : Int32 × Int32 := match ix v 4 with
  | none => qR 1
  | some n => qA (nI (gm n true A).1)
def Ofc.qMoveOf (A : Ofc) (v : Int32) : Int32 × Int32 := match ix v 4 with
  | none => qR 1
  | some n => if n = 0 then qR 1 else match (gm n true A).2 with
    | none => qR 6
    | some c => qA (nI c)
/-- the best swap so far: the Model's, the class's -/
def TopR (v0 : Nat) (st : Option (Nat × Option Nat)) (least : Int) (l g : Option Nat) : Prop := (least = (v0 : Int) - 1 ∧ l = none ∧ g = none ∧ ∀ c, st = some c → c.1 < v0) ∨ ∃ v x y, st = some (v, some (100 * x + y)) ∧ v0 ≤ v ∧ v ≤ 1152 ∧ least = (v : Int) ∧ l = some x ∧ g = some y ∧ x < 20 ∧ y < 20
def sgS (σ : MS) (a : Nat) : MS := setI (setI (cpA (setR σ 113 3 a) (a + 8) 114 20) 113 1 (-nI 1)) 113 2 (-nI 1)
section GMX3
variable {d : Nat} {σ τ ρ : MS} {a : Nat} {A : Ofc} {K : Option Value → MS → Prop}
theorem top_end {v0 : Nat} {st : Option (Nat × Option Nat)} {least : Int} {l g : Option Nat} (h : TopR v0 st least l g) : (((stl true st v0 none).1 : Nat) : Int) = max (v0 : Int) least ∧ ((∃ x y, (stl true st v0 none).2 = some (100 * x + y) ∧ l = some x ∧ g = some y ∧ x < 20 ∧ y < 20) ∨ ((stl true st v0 none).2 = none ∧ l = none)) := by
  rcases h with ⟨h1, h2, h3, h4⟩ | ⟨v, x, y, h1, h2, h3, h4, h5, h6, h7, h8⟩
  · cases st with
    | none => exact ⟨by show (v0 : Int) = _; omega, .inr ⟨rfl, h2⟩⟩
    | some c =>
      have := h4 c rfl
      have e : stl true (some c) v0 none = (v0, none) := by
        unfold stl
        dsimp only
        rw [if_pos (by rw [if_pos rfl]; exact this)]
      rw [e]
      exact ⟨by show (v0 : Int) = _; omega, .inr ⟨rfl, h2⟩⟩
  · have e : stl true st v0 none = (v, some (100 * x + y)) := by
      rw [h1]
      unfold stl
      dsimp only
      rw [if_neg (by rw [if_pos rfl]; omega)]
    rw [e]
    exact ⟨by show (v : Int) = _; omega, .inl ⟨x, y, rfl, h5, h6, h7, h8⟩⟩
theorem c_afterChange (O : OfcOk A) (ha : a + 11 < 113) {n : Nat} (hn : n < 3) {f : Nat → Option Nat} {σ : MS} (I : GmI σ a A f) {c e : Nat} (hce : c < e) (he : e < A.wide * A.high) {low : Int} (h1 : -1 ≤ low) (h2 : low ≤ 1152) :
   ∃ w τ, w ≤ 1152 ∧ ABw w (gm n false ((A.setPl f).swa c e)).1 low 1000000 ∧ Ag (fun b => b = 114) σ τ ∧ (∀ c, c < 20 → sI τ 114 c = sI σ 114 c) ∧ ∀ K, zC (d + n + 4) 26 [.ref 113, .int (nI c), .int (nI e), .int (nI n), .int (nI (A.setPl f).whole), .int (iI low)] σ K = K (some (.int (nI w))) τ := by
  have h20 := cells20 O
  have I0 := I
  obtain ⟨i1, i2, i3, i4, i5⟩ := I
  have H := i4
  have hc : c < A.wide * A.high := by omega
  have c20 : c < 20 := by omega
  have e20 : e < 20 := by omega
  have cg := fun (K : Option Value → MS → Prop) => c_gainOfExchange (d := d + n + 1) (K := K) H O (b := 114) (lay := (A.setPl f).who) i2.k1 i5 (fun x q h => who_np i1 h) hc he
  have ws := whole_swa i1 hc he (by omega)
  have og := swa_ok i1 hc he
  have wl := whole_le og
  have wl2 := whole_le i1
  have eg : nI (A.setPl f).whole + iI (A.gain (A.setPl f).who c e) = nI ((A.setPl f).swa c e).whole := by
    rw [nI_iI, nI_iI, iI_add, ws]
    rfl
  obtain ⟨f', ef, I'⟩ := I0.sw ha hc he
  obtain ⟨w, ρ, w1, w2, w3, w4, w5⟩ := c_worth (d := d) O ha n false (by omega) f' low 1000000 (chg σ c e) I' (by omega) (by omega) (by omega)
  rw [← ef] at w2 w5
  have g1 := chg_ag (σ := σ) c e
  have G1 := I'.2.1
  have G2 := (I'.2.1).ag w3 (fun j => w3.R (by omega) j)
  have bk := chg_back (σ := σ) (ρ := ρ) (show c ≠ e by omega) c20 e20 w4
  have c1 := fun (K : Option Value → MS → Prop) => c_change (d := d + n + 2) (K := K) i2 c20 e20
  have c2 := fun (K : Option Value → MS → Prop) => c_change (d := d + n + 2) (K := K) G2 c20 e20
  refine ⟨w, chg ρ c e, w1, w2, (g1.tr w3).tr (chg_ag c e), bk, fun K => ?_⟩
  have w5 : ∀ K, zC (d + n + 3) 27 [.ref 113, .int (nI n), .int (nI 0), .int (nI ((A.setPl f).swa c e).whole), .int (iI low), .int (nI 1000000)] (chg σ c e) K = K (some (.int (nI w))) ρ := w5
  rw [E_26]
  simp (disch := omega) only [L_26_0, zt_26_0, ↓e_iconst0, ↓e_iconst1, ↓e_bipush0, ↓e_bipush1, ↓e_sipush0, ↓e_sipush1, ↓e_ldc0, ↓e_ldc1, ↓e_ldc_w0, ↓e_ldc_w1, ↓e_ldc2, ↓e_lconst0, ↓e_lconst1, ↓e_ldc2_w0, ↓e_ldc2_w1, ↓e_iload, ↓e_iload_n, ↓e_istore, ↓e_istore_n, ↓e_lload, ↓e_lload_n, ↓e_lstore, ↓e_lstore_n, ↓e_aload, ↓e_aload_n, ↓e_astore, ↓e_astore_n, ↓e_iinc0, ↓e_iinc1, ↓e_iadd, ↓e_isub, ↓e_imul, ↓e_iand, ↓e_ior, ↓e_ixor, ↓e_ishl, ↓e_ishr, ↓e_iushr, ↓e_ladd, ↓e_lsub, ↓e_lmul, ↓e_land, ↓e_lor, ↓e_idiv, ↓e_irem, ↓e_ldiv, ↓e_lrem, ↓e_lshl, ↓e_lcmp, ↓e_i2l, ↓e_l2i, ↓e_i2b, ↓e_i2s, ↓e_dup_int, ↓e_pop_int, ↓e_dup_ref, ↓e_pop_ref, ↓e_dup2, ↓e_goto, ↓e_nop, ↓e_ifCond_eq, ↓e_if_icmp_eq, ↓e_ifCond_ne, ↓e_if_icmp_ne, ↓e_ifCond_lt, ↓e_if_icmp_lt, ↓e_ifCond_ge, ↓e_if_icmp_ge, ↓e_ifCond_gt, ↓e_if_icmp_gt, ↓e_ifCond_le, ↓e_if_icmp_le, ↓e_tab, ↓e_look, ↓e_get0, ↓e_get1, ↓e_get2, ↓e_get3, ↓e_put0, ↓e_put1, ↓e_put2, ↓e_put3, ↓e_iaload, ↓e_laload, ↓e_baload, ↓e_aaload, ↓e_iastore, ↓e_lastore, ↓e_bastore, ↓e_aastore, ↓e_alen, ↓e_new, ↓e_newarray, ↓e_anewarray, ↓e_objinit, ↓e_virt1, ↓e_virt2, ↓e_virt3, ↓e_virt4, ↓e_virt5, ↓e_virt6, ↓e_virt7, ↓e_stat0, ↓e_stat1, ↓e_stat2, ↓e_stat3, ↓e_stat4, ↓e_stat5, ↓e_stat6, ↓e_stat7, ↓e_spec1, ↓e_spec2, ↓e_spec3, ↓e_spec4, ↓e_spec5, ↓e_strlen, ↓e_charAt, ↓e_copy, ↓e_iret0, ↓e_iret1, ↓e_lret, ↓e_aret, ↓e_vret, zIsI_int, zIsL_long, zIsA_ref, zInt_int, true_and, and_true, ↓reduceIte, zGet, zSet, zSet2, zEnt, zWid, Value.category, List.map_cons, List.map_nil, List.sum_cons, List.sum_nil, List.replicate, Option.toList, Nat.reduceAdd, Nat.reduceSub, Nat.reduceMul, Nat.reduceLeDiff, Nat.reduceEqDiff, Nat.reduceLT, List.cons_append, List.nil_append, true_or, or_true, or_false, false_or, nI_ltI, nI_leI, nI_eq, nI_clamp, zIn_nI, bI_0, nI_add, nI_mul, nI_or, nI_and, nI_shl1, nI_bit, ↓pk_rem, pk_div, Nat.lt_irrefl, Nat.not_lt_zero, reduceCtorEq, i2.k, i2.r4, i3, H.k, ↓cg, eg, ↓c1, G1.k, ↓w5, G2.k, ↓c2]
theorem c_topLoop (O : OfcOk A) (ha : a + 11 < 113) {n : Nat} (hn : n < 3) {v0 : Nat} (hv0 : v0 ≤ 1152) : ∀ (m k : Nat) (σ : MS) (st : Option (Nat × Option Nat)) (least : Int) (l g : Option Nat) (j1 j2 j3 : Value), k + m = 2 * (A.wide * A.high) → GmI σ a A A.pl → sI σ 113 0 = nI v0 → sI σ 113 1 = oI l → sI σ 113 2 = oI g → TopR v0 st least l g → (-1 ≤ least ∧ least ≤ 1152) →
   ∃ τ least' l' g', TopR v0 ((A.rest m k).foldl (gst true (fun C => (gm n false C).1) A) st) least' l' g' ∧ Ag (fun b => b = 113 ∨ b = 114) σ τ ∧ (∀ j, sR τ 113 j = sR σ 113 j) ∧ sI τ 113 1 = oI l' ∧ sI τ 113 2 = oI g' ∧ sI τ 113 0 = iI (max (v0 : Int) least') ∧ ∀ K, zX (d + n + 5) 25 75 [.ref 113, .ref a, .int (nI (n + 1)), .int (nI A.whole), .int (iI least), .int (nI k), j1, j2, j3] [] σ K = K none τ := by
  have h20 := cells20 O
  have eA : A.setPl A.pl = A := rfl
  intro m
  induction m with
  | zero =>
    intro k σ st least l g j1 j2 j3 hk I b0 b1 b2 T lb
    obtain ⟨i1, i2, i3, i4, i5⟩ := I
    have H := i4
    have hk : k = A.wide * A.high * 2 := by omega
    subst hk
    refine ⟨setI σ 113 0 (iI (max (v0 : Int) least)), least, l, g, T, Ag.rf.setI (.inl rfl), fun _ => rfl, by rw [sI_setI, if_neg (by omega)]; exact b1, by rw [sI_setI, if_neg (by omega)]; exact b2, by rw [sI_setI, if_pos ⟨rfl, rfl⟩], fun K => ?_⟩
    have cm := fun (K : Option Value → MS → Prop) => c_maxI (d := d + n + 4) (σ := σ) (K := K) (x := (v0 : Int)) (y := least) (by omega) (by omega) (by omega) (by omega)
    rw [← nI_iI] at cm
    rw [L_25_75, zt_25_75]
    simp (disch := omega) only [L_25_168, zt_25_168, ↓e_iconst0, ↓e_iconst1, ↓e_bipush0, ↓e_bipush1, ↓e_sipush0, ↓e_sipush1, ↓e_ldc0, ↓e_ldc1, ↓e_ldc_w0, ↓e_ldc_w1, ↓e_ldc2, ↓e_lconst0, ↓e_lconst1, ↓e_ldc2_w0, ↓e_ldc2_w1, ↓e_iload, ↓e_iload_n, ↓e_istore, ↓e_istore_n, ↓e_lload, ↓e_lload_n, ↓e_lstore, ↓e_lstore_n, ↓e_aload, ↓e_aload_n, ↓e_astore, ↓e_astore_n, ↓e_iinc0, ↓e_iinc1, ↓e_iadd, ↓e_isub, ↓e_imul, ↓e_iand, ↓e_ior, ↓e_ixor, ↓e_ishl, ↓e_ishr, ↓e_iushr, ↓e_ladd, ↓e_lsub, ↓e_lmul, ↓e_land, ↓e_lor, ↓e_idiv, ↓e_irem, ↓e_ldiv, ↓e_lrem, ↓e_lshl, ↓e_lcmp, ↓e_i2l, ↓e_l2i, ↓e_i2b, ↓e_i2s, ↓e_dup_int, ↓e_pop_int, ↓e_dup_ref, ↓e_pop_ref, ↓e_dup2, ↓e_goto, ↓e_nop, ↓e_ifCond_eq, ↓e_if_icmp_eq, ↓e_ifCond_ne, ↓e_if_icmp_ne, ↓e_ifCond_lt, ↓e_if_icmp_lt, ↓e_ifCond_ge, ↓e_if_icmp_ge, ↓e_ifCond_gt, ↓e_if_icmp_gt, ↓e_ifCond_le, ↓e_if_icmp_le, ↓e_tab, ↓e_look, ↓e_get0, ↓e_get1, ↓e_get2, ↓e_get3, ↓e_put0, ↓e_put1, ↓e_put2, ↓e_put3, ↓e_iaload, ↓e_laload, ↓e_baload, ↓e_aaload, ↓e_iastore, ↓e_lastore, ↓e_bastore, ↓e_aastore, ↓e_alen, ↓e_new, ↓e_newarray, ↓e_anewarray, ↓e_objinit, ↓e_virt1, ↓e_virt2, ↓e_virt3, ↓e_virt4, ↓e_virt5, ↓e_virt6, ↓e_virt7, ↓e_stat0, ↓e_stat1, ↓e_stat2, ↓e_stat3, ↓e_stat4, ↓e_stat5, ↓e_stat6, ↓e_stat7, ↓e_spec1, ↓e_spec2, ↓e_spec3, ↓e_spec4, ↓e_spec5, ↓e_strlen, ↓e_charAt, ↓e_copy, ↓e_iret0, ↓e_iret1, ↓e_lret, ↓e_aret, ↓e_vret, zIsI_int, zIsL_long, zIsA_ref, zInt_int, true_and, and_true, ↓reduceIte, zGet, zSet, zSet2, zEnt, zWid, Value.category, List.map_cons, List.map_nil, List.sum_cons, List.sum_nil, List.replicate, Option.toList, Nat.reduceAdd, Nat.reduceSub, Nat.reduceMul, Nat.reduceLeDiff, Nat.reduceEqDiff, Nat.reduceLT, List.cons_append, List.nil_append, true_or, or_true, or_false, false_or, H.k, H.i0, H.i1, H.i2, H.i3, H.i4, H.i5, H.i6, H.i7, H.r8, H.r9, H.r10, H.r11, H.r12, H.r13, H.r14, H.r15, H.r16, H.r17, H.r18, H.k1, H.k2, H.k3, H.k4, H.k5, H.k6, H.k7, H.k8, H.k9, H.k10, H.k11, nI_ltI, nI_leI, nI_eq, nI_clamp, zIn_nI, bI_0, nI_add, nI_mul, nI_or, nI_and, nI_shl1, nI_bit, ↓pk_rem, pk_div, Nat.lt_irrefl, Nat.not_lt_zero, reduceCtorEq, i2.k, i3, b0, ↓cm]
  | succ m ih =>
    intro k σ st least l g j1 j2 j3 hk I b0 b1 b2 T lb
    have I0 := I
    obtain ⟨i1, i2, i3, i4, i5⟩ := I
    have H := i4
    have hk2 : k < A.wide * A.high * 2 := by omega
    have hc : k / 2 < A.wide * A.high := by omega
    have d2 : ¬ nI 2 = (0 : Int32) := by decide
    have ed : nI k / nI 2 = nI (k / 2) := pk_div (by omega) (by omega) (by omega)
    have who31 : ∀ x q, A.who x = some q → q < 2 ^ 31 := fun x q h => who31 x q h
    have cc := fun (K : Option Value → MS → Prop) => c_canChange (d := d + n + 3) (K := K) i2 i3 H O (lay := A.who) i5 who31 hc (A.side (k / 2) (2 + k % 2)) (fun x h => side_lt O hc h)
    have cs := fun (K : Option Value → MS → Prop) => c_sideOf (d := d + n + 3) (K := K) H O hc (k := 2 + k % 2) (by omega)
    by_cases hg : canL A.who (k / 2) (A.side (k / 2) (2 + k % 2)) = true
    · cases hs : A.side (k / 2) (2 + k % 2) with
      | none => rw [hs] at hg; cases hg
      | some e =>
        rw [hs] at hg cc cs
        rw [hg, show bI true = nI 1 from rfl, show oI (some e) = nI e from rfl] at cc
        rw [show oI (some e) = nI e from rfl] at cs
        have he := side_lt O hc hs
        have hce := side23 O (by omega) hs
        obtain ⟨w, τ, w1, w2, w3, w4, w5⟩ := c_afterChange (d := d + 1) O ha hn I0 hce he (low := least) (by omega) (by omega)
        rw [eA] at w2 w5
        rw [show d + 1 + n + 4 = d + n + 5 from by omega] at w5
        have I1 := I0.keep ha w3 w4
        have s1 : nI (n + 1) - nI 1 = nI n := by rw [nI_sub (by omega), Nat.add_sub_cancel]
        have er : (A.rest (m + 1) k).foldl (gst true (fun C => (gm n false C).1) A) st = (A.rest m (k + 1)).foldl (gst true (fun C => (gm n false C).1) A) (some (stl true st (gm n false (A.swa (k / 2) e)).1 (some (100 * (k / 2) + e)))) := by
          show (match A.side (k / 2) (2 + k % 2) with | none => A.rest m (k + 1) | some e => (k / 2, e) :: A.rest m (k + 1)).foldl _ st = _
          rw [hs]
          dsimp only
          rw [List.foldl_cons]
          congr 1
          exact if_pos hg
        rw [er]
        obtain ⟨a1, a2, a3⟩ := w2
        have gl := gm_le n false (A.swa (k / 2) e) (swa_ok O hc he)
        have lt := iI_lt (x := least) (y := (w : Int)) (by omega) (by omega) (by omega) (by omega)
        rw [← nI_iI] at lt
        have G1 := I1.2.1
        have r31 : sR τ 113 3 = a := I1.2.2.1
        by_cases hw : least < (w : Int)
        · have ew := a1 hw (by omega)
          rw [← ew] at gl ⊢
          have T2 : TopR v0 (some (stl true st w (some (100 * (k / 2) + e)))) (w : Int) (some (k / 2)) (some e) := by
            refine .inr ⟨w, k / 2, e, ?_, ?_, gl, rfl, rfl, rfl, by omega, by omega⟩
            · congr 1
              rcases T with ⟨t1, t2, t3, t4⟩ | ⟨v, x, y, t1, t2, t3, t4, _⟩
              · cases st with
                | none => rfl
                | some c =>
                  have := t4 c rfl
                  unfold stl
                  dsimp only
                  rw [if_pos (by rw [if_pos rfl]; omega)]
              · rw [t1]
                unfold stl
                dsimp only
                rw [if_pos (by rw [if_pos rfl]; omega)]
            · rcases T with ⟨t1, _⟩ | ⟨v, x, y, t1, t2, t3, t4, _⟩
              · omega
              · omega
          have f2 : Ag (fun b => b = 113 ∨ b = 114) τ (setI (setI τ 113 1 (nI (k / 2))) 113 2 (nI e)) := (Ag.rf.setI (.inl rfl)).setI (.inl rfl)
          have I2 : GmI (setI (setI τ 113 1 (nI (k / 2))) 113 2 (nI e)) a A A.pl := by
            obtain ⟨z1, z2, z3, z4, z5⟩ := I1
            exact ⟨z1, z2.ag f2 (fun _ => rfl), z3, z4.ag f2 (fun b _ _ => by omega), fun c hc => by rw [sI_setI, if_neg (by omega), sI_setI, if_neg (by omega)]; exact z5 c hc⟩
          obtain ⟨ρ, least', l', g', q1, q2, q3, q4, q5, q6, q7⟩ := ih (k + 1) (setI (setI τ 113 1 (nI (k / 2))) 113 2 (nI e)) _ (w : Int) (some (k / 2)) (some e) (.int (nI (k / 2))) (.int (nI e)) (.int (nI w)) (by omega) I2 (by rw [sI_setI, if_neg (by omega), sI_setI, if_neg (by omega), w3.I (by omega)]; exact b0) (by rw [sI_setI, if_neg (by omega), sI_setI, if_pos ⟨rfl, rfl⟩]; rfl) (by rw [sI_setI, if_pos ⟨rfl, rfl⟩]; rfl) T2 (by omega)
          refine ⟨ρ, least', l', g', q1, ((w3.mono (fun b hb => .inr hb)).tr f2).tr q2, fun j => (q3 j).trans (w3.R (by omega) j), q4, q5, q6, fun K => ?_⟩
          have q7 := q7 K
          rw [← nI_iI] at q7
          rw [L_25_75, zt_25_75]
          simp (disch := omega) only [L_25_162, zt_25_162, ↓e_iconst0, ↓e_iconst1, ↓e_bipush0, ↓e_bipush1, ↓e_sipush0, ↓e_sipush1, ↓e_ldc0, ↓e_ldc1, ↓e_ldc_w0, ↓e_ldc_w1, ↓e_ldc2, ↓e_lconst0, ↓e_lconst1, ↓e_ldc2_w0, ↓e_ldc2_w1, ↓e_iload, ↓e_iload_n, ↓e_istore, ↓e_istore_n, ↓e_lload, ↓e_lload_n, ↓e_lstore, ↓e_lstore_n, ↓e_aload, ↓e_aload_n, ↓e_astore, ↓e_astore_n, ↓e_iinc0, ↓e_iinc1, ↓e_iadd, ↓e_isub, ↓e_imul, ↓e_iand, ↓e_ior, ↓e_ixor, ↓e_ishl, ↓e_ishr, ↓e_iushr, ↓e_ladd, ↓e_lsub, ↓e_lmul, ↓e_land, ↓e_lor, ↓e_idiv, ↓e_irem, ↓e_ldiv, ↓e_lrem, ↓e_lshl, ↓e_lcmp, ↓e_i2l, ↓e_l2i, ↓e_i2b, ↓e_i2s, ↓e_dup_int, ↓e_pop_int, ↓e_dup_ref, ↓e_pop_ref, ↓e_dup2, ↓e_goto, ↓e_nop, ↓e_ifCond_eq, ↓e_if_icmp_eq, ↓e_ifCond_ne, ↓e_if_icmp_ne, ↓e_ifCond_lt, ↓e_if_icmp_lt, ↓e_ifCond_ge, ↓e_if_icmp_ge, ↓e_ifCond_gt, ↓e_if_icmp_gt, ↓e_ifCond_le, ↓e_if_icmp_le, ↓e_tab, ↓e_look, ↓e_get0, ↓e_get1, ↓e_get2, ↓e_get3, ↓e_put0, ↓e_put1, ↓e_put2, ↓e_put3, ↓e_iaload, ↓e_laload, ↓e_baload, ↓e_aaload, ↓e_iastore, ↓e_lastore, ↓e_bastore, ↓e_aastore, ↓e_alen, ↓e_new, ↓e_newarray, ↓e_anewarray, ↓e_objinit, ↓e_virt1, ↓e_virt2, ↓e_virt3, ↓e_virt4, ↓e_virt5, ↓e_virt6, ↓e_virt7, ↓e_stat0, ↓e_stat1, ↓e_stat2, ↓e_stat3, ↓e_stat4, ↓e_stat5, ↓e_stat6, ↓e_stat7, ↓e_spec1, ↓e_spec2, ↓e_spec3, ↓e_spec4, ↓e_spec5, ↓e_strlen, ↓e_charAt, ↓e_copy, ↓e_iret0, ↓e_iret1, ↓e_lret, ↓e_aret, ↓e_vret, zIsI_int, zIsL_long, zIsA_ref, zInt_int, true_and, and_true, ↓reduceIte, zGet, zSet, zSet2, zEnt, zWid, Value.category, List.map_cons, List.map_nil, List.sum_cons, List.sum_nil, List.replicate, Option.toList, Nat.reduceAdd, Nat.reduceSub, Nat.reduceMul, Nat.reduceLeDiff, Nat.reduceEqDiff, Nat.reduceLT, List.cons_append, List.nil_append, true_or, or_true, or_false, false_or, H.k, H.i0, H.i1, H.i2, H.i3, H.i4, H.i5, H.i6, H.i7, H.r8, H.r9, H.r10, H.r11, H.r12, H.r13, H.r14, H.r15, H.r16, H.r17, H.r18, H.k1, H.k2, H.k3, H.k4, H.k5, H.k6, H.k7, H.k8, H.k9, H.k10, H.k11, nI_ltI, nI_leI, nI_eq, nI_clamp, zIn_nI, bI_0, nI_add, nI_mul, nI_or, nI_and, nI_shl1, nI_bit, ↓pk_rem, pk_div, Nat.lt_irrefl, Nat.not_lt_zero, reduceCtorEq, hk2, d2, not_false_eq_true, ed, i2.k, i3, ↓cs, ↓cc, s1, ↓w5, lt, hw, G1.k, sK_setI, sR_setI, sL_setI, q7]
        · have wx := a2 (by omega)
          have T2 : TopR v0 (some (stl true st (gm n false (A.swa (k / 2) e)).1 (some (100 * (k / 2) + e)))) least l g := by
            rcases T with ⟨t1, t2, t3, t4⟩ | ⟨v, x, y, t1, t2, t3, t4, t5, t6, t7, t8⟩
            · refine .inl ⟨t1, t2, t3, fun c hc => ?_⟩
              cases hc
              cases st with
              | none => show (gm n false (A.swa (k / 2) e)).1 < v0; omega
              | some c0 =>
                have := t4 c0 rfl
                unfold stl
                dsimp only
                by_cases hv : c0.1 < (gm n false (A.swa (k / 2) e)).1
                · rw [if_pos (by rw [if_pos rfl]; exact hv)]; show (gm n false (A.swa (k / 2) e)).1 < v0; omega
                · rw [if_neg (by rw [if_pos rfl]; exact hv)]; exact this
            · refine .inr ⟨v, x, y, ?_, t2, t3, t4, t5, t6, t7, t8⟩
              rw [t1]
              unfold stl
              dsimp only
              rw [if_neg (by rw [if_pos rfl]; omega)]
          obtain ⟨ρ, least', l', g', q1, q2, q3, q4, q5, q6, q7⟩ := ih (k + 1) τ _ least l g (.int (nI (k / 2))) (.int (nI e)) (.int (nI w)) (by omega) I1 ((w3.I (by omega) _).trans b0) ((w3.I (by omega) _).trans b1) ((w3.I (by omega) _).trans b2) T2 lb
          refine ⟨ρ, least', l', g', q1, (w3.mono (fun b hb => .inr hb)).tr q2, fun j => (q3 j).trans (w3.R (by omega) j), q4, q5, q6, fun K => ?_⟩
          have q7 := q7 K
          rw [L_25_75, zt_25_75]
          simp (disch := omega) only [L_25_162, zt_25_162, ↓e_iconst0, ↓e_iconst1, ↓e_bipush0, ↓e_bipush1, ↓e_sipush0, ↓e_sipush1, ↓e_ldc0, ↓e_ldc1, ↓e_ldc_w0, ↓e_ldc_w1, ↓e_ldc2, ↓e_lconst0, ↓e_lconst1, ↓e_ldc2_w0, ↓e_ldc2_w1, ↓e_iload, ↓e_iload_n, ↓e_istore, ↓e_istore_n, ↓e_lload, ↓e_lload_n, ↓e_lstore, ↓e_lstore_n, ↓e_aload, ↓e_aload_n, ↓e_astore, ↓e_astore_n, ↓e_iinc0, ↓e_iinc1, ↓e_iadd, ↓e_isub, ↓e_imul, ↓e_iand, ↓e_ior, ↓e_ixor, ↓e_ishl, ↓e_ishr, ↓e_iushr, ↓e_ladd, ↓e_lsub, ↓e_lmul, ↓e_land, ↓e_lor, ↓e_idiv, ↓e_irem, ↓e_ldiv, ↓e_lrem, ↓e_lshl, ↓e_lcmp, ↓e_i2l, ↓e_l2i, ↓e_i2b, ↓e_i2s, ↓e_dup_int, ↓e_pop_int, ↓e_dup_ref, ↓e_pop_ref, ↓e_dup2, ↓e_goto, ↓e_nop, ↓e_ifCond_eq, ↓e_if_icmp_eq, ↓e_ifCond_ne, ↓e_if_icmp_ne, ↓e_ifCond_lt, ↓e_if_icmp_lt, ↓e_ifCond_ge, ↓e_if_icmp_ge, ↓e_ifCond_gt, ↓e_if_icmp_gt, ↓e_ifCond_le, ↓e_if_icmp_le, ↓e_tab, ↓e_look, ↓e_get0, ↓e_get1, ↓e_get2, ↓e_get3, ↓e_put0, ↓e_put1, ↓e_put2, ↓e_put3, ↓e_iaload, ↓e_laload, ↓e_baload, ↓e_aaload, ↓e_iastore, ↓e_lastore, ↓e_bastore, ↓e_aastore, ↓e_alen, ↓e_new, ↓e_newarray, ↓e_anewarray, ↓e_objinit, ↓e_virt1, ↓e_virt2, ↓e_virt3, ↓e_virt4, ↓e_virt5, ↓e_virt6, ↓e_virt7, ↓e_stat0, ↓e_stat1, ↓e_stat2, ↓e_stat3, ↓e_stat4, ↓e_stat5, ↓e_stat6, ↓e_stat7, ↓e_spec1, ↓e_spec2, ↓e_spec3, ↓e_spec4, ↓e_spec5, ↓e_strlen, ↓e_charAt, ↓e_copy, ↓e_iret0, ↓e_iret1, ↓e_lret, ↓e_aret, ↓e_vret, zIsI_int, zIsL_long, zIsA_ref, zInt_int, true_and, and_true, ↓reduceIte, zGet, zSet, zSet2, zEnt, zWid, Value.category, List.map_cons, List.map_nil, List.sum_cons, List.sum_nil, List.replicate, Option.toList, Nat.reduceAdd, Nat.reduceSub, Nat.reduceMul, Nat.reduceLeDiff, Nat.reduceEqDiff, Nat.reduceLT, List.cons_append, List.nil_append, true_or, or_true, or_false, false_or, H.k, H.i0, H.i1, H.i2, H.i3, H.i4, H.i5, H.i6, H.i7, H.r8, H.r9, H.r10, H.r11, H.r12, H.r13, H.r14, H.r15, H.r16, H.r17, H.r18, H.k1, H.k2, H.k3, H.k4, H.k5, H.k6, H.k7, H.k8, H.k9, H.k10, H.k11, nI_ltI, nI_leI, nI_eq, nI_clamp, zIn_nI, bI_0, nI_add, nI_mul, nI_or, nI_and, nI_shl1, nI_bit, ↓pk_rem, pk_div, Nat.lt_irrefl, Nat.not_lt_zero, reduceCtorEq, hk2, d2, not_false_eq_true, ed, i2.k, i3, ↓cs, ↓cc, s1, ↓w5, lt, hw, q7]
    · rw [Bool.not_eq_true] at hg
      rw [hg, show bI false = nI 0 from rfl] at cc
      have er : (A.rest (m + 1) k).foldl (gst true (fun C => (gm n false C).1) A) st = (A.rest m (k + 1)).foldl (gst true (fun C => (gm n false C).1) A) st := by
        show (match A.side (k / 2) (2 + k % 2) with | none => A.rest m (k + 1) | some e => (k / 2, e) :: A.rest m (k + 1)).foldl _ st = _
        cases hs : A.side (k / 2) (2 + k % 2) with
        | none => rfl
        | some e =>
          rw [hs] at hg
          dsimp only
          rw [List.foldl_cons]
          congr 1
          exact if_neg (fun h => by rw [show canL A.who (k / 2) (some e) = true from h] at hg; cases hg)
      rw [er]
      obtain ⟨ρ, least', l', g', q1, q2, q3, q4, q5, q6, q7⟩ := ih (k + 1) σ st least l g (.int (nI (k / 2))) (.int (oI (A.side (k / 2) (2 + k % 2)))) j3 (by omega) I0 b0 b1 b2 T lb
      refine ⟨ρ, least', l', g', q1, q2, q3, q4, q5, q6, fun K => ?_⟩
      have q7 := q7 K
      rw [L_25_75, zt_25_75]
      simp (disch := omega) only [L_25_162, zt_25_162, ↓e_iconst0, ↓e_iconst1, ↓e_bipush0, ↓e_bipush1, ↓e_sipush0, ↓e_sipush1, ↓e_ldc0, ↓e_ldc1, ↓e_ldc_w0, ↓e_ldc_w1, ↓e_ldc2, ↓e_lconst0, ↓e_lconst1, ↓e_ldc2_w0, ↓e_ldc2_w1, ↓e_iload, ↓e_iload_n, ↓e_istore, ↓e_istore_n, ↓e_lload, ↓e_lload_n, ↓e_lstore, ↓e_lstore_n, ↓e_aload, ↓e_aload_n, ↓e_astore, ↓e_astore_n, ↓e_iinc0, ↓e_iinc1, ↓e_iadd, ↓e_isub, ↓e_imul, ↓e_iand, ↓e_ior, ↓e_ixor, ↓e_ishl, ↓e_ishr, ↓e_iushr, ↓e_ladd, ↓e_lsub, ↓e_lmul, ↓e_land, ↓e_lor, ↓e_idiv, ↓e_irem, ↓e_ldiv, ↓e_lrem, ↓e_lshl, ↓e_lcmp, ↓e_i2l, ↓e_l2i, ↓e_i2b, ↓e_i2s, ↓e_dup_int, ↓e_pop_int, ↓e_dup_ref, ↓e_pop_ref, ↓e_dup2, ↓e_goto, ↓e_nop, ↓e_ifCond_eq, ↓e_if_icmp_eq, ↓e_ifCond_ne, ↓e_if_icmp_ne, ↓e_ifCond_lt, ↓e_if_icmp_lt, ↓e_ifCond_ge, ↓e_if_icmp_ge, ↓e_ifCond_gt, ↓e_if_icmp_gt, ↓e_ifCond_le, ↓e_if_icmp_le, ↓e_tab, ↓e_look, ↓e_get0, ↓e_get1, ↓e_get2, ↓e_get3, ↓e_put0, ↓e_put1, ↓e_put2, ↓e_put3, ↓e_iaload, ↓e_laload, ↓e_baload, ↓e_aaload, ↓e_iastore, ↓e_lastore, ↓e_bastore, ↓e_aastore, ↓e_alen, ↓e_new, ↓e_newarray, ↓e_anewarray, ↓e_objinit, ↓e_virt1, ↓e_virt2, ↓e_virt3, ↓e_virt4, ↓e_virt5, ↓e_virt6, ↓e_virt7, ↓e_stat0, ↓e_stat1, ↓e_stat2, ↓e_stat3, ↓e_stat4, ↓e_stat5, ↓e_stat6, ↓e_stat7, ↓e_spec1, ↓e_spec2, ↓e_spec3, ↓e_spec4, ↓e_spec5, ↓e_strlen, ↓e_charAt, ↓e_copy, ↓e_iret0, ↓e_iret1, ↓e_lret, ↓e_aret, ↓e_vret, zIsI_int, zIsL_long, zIsA_ref, zInt_int, true_and, and_true, ↓reduceIte, zGet, zSet, zSet2, zEnt, zWid, Value.category, List.map_cons, List.map_nil, List.sum_cons, List.sum_nil, List.replicate, Option.toList, Nat.reduceAdd, Nat.reduceSub, Nat.reduceMul, Nat.reduceLeDiff, Nat.reduceEqDiff, Nat.reduceLT, List.cons_append, List.nil_append, true_or, or_true, or_false, false_or, H.k, H.i0, H.i1, H.i2, H.i3, H.i4, H.i5, H.i6, H.i7, H.r8, H.r9, H.r10, H.r11, H.r12, H.r13, H.r14, H.r15, H.r16, H.r17, H.r18, H.k1, H.k2, H.k3, H.k4, H.k5, H.k6, H.k7, H.k8, H.k9, H.k10, H.k11, nI_ltI, nI_leI, nI_eq, nI_clamp, zIn_nI, bI_0, nI_add, nI_mul, nI_or, nI_and, nI_shl1, nI_bit, ↓pk_rem, pk_div, Nat.lt_irrefl, Nat.not_lt_zero, reduceCtorEq, hk2, d2, not_false_eq_true, ed, i2.k, i3, ↓cs, ↓cc, q7]
theorem sgS_ag : Ag (fun b => b = 113 ∨ b = 114) σ (sgS σ a) := by
  unfold sgS cpA
  exact (((Ag.rf.setR (p := fun b => b = 113 ∨ b = 114) (.inl rfl) (.inr (.inr (.inr (.inr rfl))))).upA (.inr rfl)).setI (.inl rfl)).setI (.inl rfl)
/-- the game is sought: its worth, its first swap -/
theorem c_seekG (G : RPk σ) (H : ROff σ a A) (O : OfcOk A) (ha : a + 11 < 113) {n : Nat} (hn : n ≤ 3) :
   ∃ τ, Ag (fun b => b = 113 ∨ b = 114) σ τ ∧ RPk τ ∧ sI τ 113 0 = nI (gm n true A).1 ∧ (0 < n → ((∃ x y, (gm n true A).2 = some (100 * x + y) ∧ sI τ 113 1 = nI x ∧ sI τ 113 2 = nI y ∧ x < 20 ∧ y < 20) ∨ ((gm n true A).2 = none ∧ sI τ 113 1 = -nI 1))) ∧ ∀ K, zC (d + 9) 25 [.ref 113, .ref a, .int (nI n)] σ K = K none τ := by
  have h20 := cells20 O
  have eA : A.setPl A.pl = A := rfl
  have f1 := sgS_ag (σ := σ) (a := a)
  have G1 : RPk (sgS σ a) := by
    refine RPk.mk G.k ?_ G.k1
    unfold sgS cpA
    rw [sR_setI, sR_setI, sR_upA, sR_setR, if_neg (by omega)]
    exact G.r4
  have r3 : sR (sgS σ a) 113 3 = a := by
    unfold sgS cpA
    rw [sR_setI, sR_setI, sR_upA, sR_setR, if_pos ⟨rfl, rfl⟩]
  have H1 : ROff (sgS σ a) a A := H.ag f1 (fun b _ _ => by omega)
  have I : GmI (sgS σ a) a A A.pl := ⟨O, G1, r3, H1, fun c hc => by
    unfold sgS cpA
    rw [sI_setI, if_neg (by omega), sI_setI, if_neg (by omega), sI_upA, if_pos rfl, if_pos hc, sI_setR]
    exact H.a8 c hc⟩
  have x3 : sR (setR σ 113 3 a) 113 3 = a := by rw [sR_setR, if_pos ⟨rfl, rfl⟩]
  have x4 : sR (setR σ 113 3 a) 113 4 = 114 := by rw [sR_setR, if_neg (by omega)]; exact G.r4
  have xa : ∀ j, sR (setR σ 113 3 a) a j = sR σ a j := fun j => by rw [sR_setR, if_neg (by omega)]
  have n0 : ¬ (nI 0 : Int32) < 0 := by decide
  have n20 : ¬ (nI 20 : Int32) < 0 := by decide
  have cw := fun (K : Option Value → MS → Prop) => c_wholeLikeness (d := d + 5) (K := K) H1 O
  have wl := whole_le O
  have y3 : sR (sgS σ a) 113 3 = a := r3
  cases n with
  | zero =>
    have e : ∀ (K : Option Value → MS → Prop), zC (d + 8) 27 [.ref 113, .int (nI 0 - nI 1), .int (nI 0), .int (nI A.whole), .int (-nI 1000000), .int (nI 1000000)] (sgS σ a) K = K (some (.int (nI A.whole))) (sgS σ a) := by
      intro K
      have m1 : nI 0 - nI 1 ≤ nI 0 := by decide
      have m2 : ¬ nI 0 < nI 0 - nI 1 := by decide
      rw [E_27]
      simp (disch := omega) only [L_27_0, zt_27_0, L_27_9, zt_27_9, ↓e_iconst0, ↓e_iconst1, ↓e_bipush0, ↓e_bipush1, ↓e_sipush0, ↓e_sipush1, ↓e_ldc0, ↓e_ldc1, ↓e_ldc_w0, ↓e_ldc_w1, ↓e_ldc2, ↓e_lconst0, ↓e_lconst1, ↓e_ldc2_w0, ↓e_ldc2_w1, ↓e_iload, ↓e_iload_n, ↓e_istore, ↓e_istore_n, ↓e_lload, ↓e_lload_n, ↓e_lstore, ↓e_lstore_n, ↓e_aload, ↓e_aload_n, ↓e_astore, ↓e_astore_n, ↓e_iinc0, ↓e_iinc1, ↓e_iadd, ↓e_isub, ↓e_imul, ↓e_iand, ↓e_ior, ↓e_ixor, ↓e_ishl, ↓e_ishr, ↓e_iushr, ↓e_ladd, ↓e_lsub, ↓e_lmul, ↓e_land, ↓e_lor, ↓e_idiv, ↓e_irem, ↓e_ldiv, ↓e_lrem, ↓e_lshl, ↓e_lcmp, ↓e_i2l, ↓e_l2i, ↓e_i2b, ↓e_i2s, ↓e_dup_int, ↓e_pop_int, ↓e_dup_ref, ↓e_pop_ref, ↓e_dup2, ↓e_goto, ↓e_nop, ↓e_ifCond_eq, ↓e_if_icmp_eq, ↓e_ifCond_ne, ↓e_if_icmp_ne, ↓e_ifCond_lt, ↓e_if_icmp_lt, ↓e_ifCond_ge, ↓e_if_icmp_ge, ↓e_ifCond_gt, ↓e_if_icmp_gt, ↓e_ifCond_le, ↓e_if_icmp_le, ↓e_tab, ↓e_look, ↓e_get0, ↓e_get1, ↓e_get2, ↓e_get3, ↓e_put0, ↓e_put1, ↓e_put2, ↓e_put3, ↓e_iaload, ↓e_laload, ↓e_baload, ↓e_aaload, ↓e_iastore, ↓e_lastore, ↓e_bastore, ↓e_aastore, ↓e_alen, ↓e_new, ↓e_newarray, ↓e_anewarray, ↓e_objinit, ↓e_virt1, ↓e_virt2, ↓e_virt3, ↓e_virt4, ↓e_virt5, ↓e_virt6, ↓e_virt7, ↓e_stat0, ↓e_stat1, ↓e_stat2, ↓e_stat3, ↓e_stat4, ↓e_stat5, ↓e_stat6, ↓e_stat7, ↓e_spec1, ↓e_spec2, ↓e_spec3, ↓e_spec4, ↓e_spec5, ↓e_strlen, ↓e_charAt, ↓e_copy, ↓e_iret0, ↓e_iret1, ↓e_lret, ↓e_aret, ↓e_vret, zIsI_int, zIsL_long, zIsA_ref, zInt_int, true_and, and_true, ↓reduceIte, zGet, zSet, zSet2, zEnt, zWid, Value.category, List.map_cons, List.map_nil, List.sum_cons, List.sum_nil, List.replicate, Option.toList, Nat.reduceAdd, Nat.reduceSub, Nat.reduceMul, Nat.reduceLeDiff, Nat.reduceEqDiff, Nat.reduceLT, List.cons_append, List.nil_append, true_or, or_true, or_false, false_or, nI_ltI, nI_leI, nI_eq, nI_clamp, zIn_nI, bI_0, nI_add, nI_mul, nI_or, nI_and, nI_shl1, nI_bit, ↓pk_rem, pk_div, Nat.lt_irrefl, Nat.not_lt_zero, reduceCtorEq, m1, m2]
    refine ⟨setI (sgS σ a) 113 0 (nI A.whole), f1.setI (.inl rfl), G1.ag (Ag.rf.setI (p := fun b => b = 113) rfl) (fun _ => rfl), by rw [sI_setI, if_pos ⟨rfl, rfl⟩]; rfl, fun h => by omega, fun K => ?_⟩
    have gk := G1.k
    unfold sgS at e cw y3 gk
    unfold sgS
    rw [E_25]
    simp (disch := omega) only [L_25_0, zt_25_0, ↓e_iconst0, ↓e_iconst1, ↓e_bipush0, ↓e_bipush1, ↓e_sipush0, ↓e_sipush1, ↓e_ldc0, ↓e_ldc1, ↓e_ldc_w0, ↓e_ldc_w1, ↓e_ldc2, ↓e_lconst0, ↓e_lconst1, ↓e_ldc2_w0, ↓e_ldc2_w1, ↓e_iload, ↓e_iload_n, ↓e_istore, ↓e_istore_n, ↓e_lload, ↓e_lload_n, ↓e_lstore, ↓e_lstore_n, ↓e_aload, ↓e_aload_n, ↓e_astore, ↓e_astore_n, ↓e_iinc0, ↓e_iinc1, ↓e_iadd, ↓e_isub, ↓e_imul, ↓e_iand, ↓e_ior, ↓e_ixor, ↓e_ishl, ↓e_ishr, ↓e_iushr, ↓e_ladd, ↓e_lsub, ↓e_lmul, ↓e_land, ↓e_lor, ↓e_idiv, ↓e_irem, ↓e_ldiv, ↓e_lrem, ↓e_lshl, ↓e_lcmp, ↓e_i2l, ↓e_l2i, ↓e_i2b, ↓e_i2s, ↓e_dup_int, ↓e_pop_int, ↓e_dup_ref, ↓e_pop_ref, ↓e_dup2, ↓e_goto, ↓e_nop, ↓e_ifCond_eq, ↓e_if_icmp_eq, ↓e_ifCond_ne, ↓e_if_icmp_ne, ↓e_ifCond_lt, ↓e_if_icmp_lt, ↓e_ifCond_ge, ↓e_if_icmp_ge, ↓e_ifCond_gt, ↓e_if_icmp_gt, ↓e_ifCond_le, ↓e_if_icmp_le, ↓e_tab, ↓e_look, ↓e_get0, ↓e_get1, ↓e_get2, ↓e_get3, ↓e_put0, ↓e_put1, ↓e_put2, ↓e_put3, ↓e_iaload, ↓e_laload, ↓e_baload, ↓e_aaload, ↓e_iastore, ↓e_lastore, ↓e_bastore, ↓e_aastore, ↓e_alen, ↓e_new, ↓e_newarray, ↓e_anewarray, ↓e_objinit, ↓e_virt1, ↓e_virt2, ↓e_virt3, ↓e_virt4, ↓e_virt5, ↓e_virt6, ↓e_virt7, ↓e_stat0, ↓e_stat1, ↓e_stat2, ↓e_stat3, ↓e_stat4, ↓e_stat5, ↓e_stat6, ↓e_stat7, ↓e_spec1, ↓e_spec2, ↓e_spec3, ↓e_spec4, ↓e_spec5, ↓e_strlen, ↓e_charAt, ↓e_copy, ↓e_iret0, ↓e_iret1, ↓e_lret, ↓e_aret, ↓e_vret, zIsI_int, zIsL_long, zIsA_ref, zInt_int, true_and, and_true, ↓reduceIte, zGet, zSet, zSet2, zEnt, zWid, Value.category, List.map_cons, List.map_nil, List.sum_cons, List.sum_nil, List.replicate, Option.toList, Nat.reduceAdd, Nat.reduceSub, Nat.reduceMul, Nat.reduceLeDiff, Nat.reduceEqDiff, Nat.reduceLT, List.cons_append, List.nil_append, true_or, or_true, or_false, false_or, nI_ltI, nI_leI, nI_eq, nI_clamp, zIn_nI, bI_0, nI_add, nI_mul, nI_or, nI_and, nI_shl1, nI_bit, ↓pk_rem, pk_div, Nat.lt_irrefl, Nat.not_lt_zero, reduceCtorEq, G.k, sK_setI, sR_setI, sL_setI, sK_setR, sK_cpA, sR_cpA, x3, x4, xa, H.k, H.r15, n0, n20, not_false_eq_true, Nat.zero_add, Nat.le_refl, cpI_A, and_self, H.k8, G.k1, ↓cw, ↓e]
  | succ n =>
    obtain ⟨w, τ1, w1, w2, w3, w4, w5⟩ := c_worth (d := d + 5 - n) O ha n false (by omega) A.pl (-1000000) 1000000 (sgS σ a) I (by omega) (by omega) (by omega)
    rw [eA] at w2 w5
    have gl := gm_le n false A O
    have ew : w = (gm n false A).1 := w2.1 (by omega) (by omega)
    rw [show d + 5 - n + n + 3 = d + 8 from by omega] at w5
    have I1 := I.keep ha w3 w4
    have f2 : Ag (fun b => b = 113 ∨ b = 114) τ1 (setI τ1 113 0 (nI w)) := Ag.rf.setI (.inl rfl)
    have I2 : GmI (setI τ1 113 0 (nI w)) a A A.pl := by
      obtain ⟨z1, z2, z3, z4, z5⟩ := I1
      exact ⟨z1, z2.ag f2 (fun _ => rfl), z3, z4.ag f2 (fun b _ _ => by omega), fun c hc => by rw [sI_setI, if_neg (by omega)]; exact z5 c hc⟩
    have s11 : sI (sgS σ a) 113 1 = -nI 1 := by unfold sgS; rw [sI_setI, if_neg (by omega), sI_setI, if_pos ⟨rfl, rfl⟩]
    have s12 : sI (sgS σ a) 113 2 = -nI 1 := by unfold sgS; rw [sI_setI, if_pos ⟨rfl, rfl⟩]
    obtain ⟨τ, least', l', g', q1, q2, q3, q4, q5, q6, q7⟩ := c_topLoop (d := d + 3 - n) O ha (show n < 3 by omega) w1 (2 * (A.wide * A.high)) 0 (setI τ1 113 0 (nI w)) none ((w : Int) - 1) none none .null .null .null (by omega) I2 (by rw [sI_setI, if_pos ⟨rfl, rfl⟩]) (by rw [sI_setI, if_neg (by omega), w3.I (by omega)]; exact s11) (by rw [sI_setI, if_neg (by omega), w3.I (by omega)]; exact s12) (.inl ⟨rfl, rfl, rfl, fun c h => by cases h⟩) (by omega)
    rw [rest_prs] at q1
    rw [show d + 3 - n + n + 5 = d + 8 from by omega] at q7
    have eg : gm (n + 1) true A = stl true (A.prs.foldl (gst true (fun C => (gm n false C).1) A) none) w none := by
      rw [ew]
      rfl
    obtain ⟨t1, t2⟩ := top_end q1
    rw [← eg] at t1 t2
    refine ⟨τ, ((f1.tr (w3.mono (fun b hb => .inr hb))).tr f2).tr q2, I2.2.1.ag q2 q3, by rw [q6, ← t1]; rfl, fun _ => ?_, fun K => ?_⟩
    · rcases t2 with ⟨x, y, u1, u2, u3, u4, u5⟩ | ⟨u1, u2⟩
      · exact .inl ⟨x, y, u1, by rw [q4, u2]; rfl, by rw [q5, u3]; rfl, u4, u5⟩
      · exact .inr ⟨u1, by rw [q4, u2]; rfl⟩
    · have s1 : nI (n + 1) - nI 1 = nI n := by rw [nI_sub (by omega), Nat.add_sub_cancel]
      have gk := G1.k
      have gk1 := I1.2.1.k
      have e0 : sI (setI τ1 113 0 (nI w)) 113 0 = nI w := by rw [sI_setI, if_pos ⟨rfl, rfl⟩]
      have es : nI w - nI 1 = iI ((w : Int) - 1) := by rw [nI_iI, nI_iI, iI_sub]; rfl
      have q7 := q7 K
      have w5 : ∀ K, zC (d + 8) 27 [.ref 113, .int (nI n), .int (nI 0), .int (nI A.whole), .int (-nI 1000000), .int (nI 1000000)] (sgS σ a) K = K (some (.int (nI w))) τ1 := fun K => by
        have := w5 K
        rw [show iI (-1000000) = -nI 1000000 from by decide] at this
        exact this
      unfold sgS at w5 cw y3 gk
      rw [E_25]
      simp (disch := omega) only [L_25_0, zt_25_0, L_25_64, zt_25_64, ↓e_iconst0, ↓e_iconst1, ↓e_bipush0, ↓e_bipush1, ↓e_sipush0, ↓e_sipush1, ↓e_ldc0, ↓e_ldc1, ↓e_ldc_w0, ↓e_ldc_w1, ↓e_ldc2, ↓e_lconst0, ↓e_lconst1, ↓e_ldc2_w0, ↓e_ldc2_w1, ↓e_iload, ↓e_iload_n, ↓e_istore, ↓e_istore_n, ↓e_lload, ↓e_lload_n, ↓e_lstore, ↓e_lstore_n, ↓e_aload, ↓e_aload_n, ↓e_astore, ↓e_astore_n, ↓e_iinc0, ↓e_iinc1, ↓e_iadd, ↓e_isub, ↓e_imul, ↓e_iand, ↓e_ior, ↓e_ixor, ↓e_ishl, ↓e_ishr, ↓e_iushr, ↓e_ladd, ↓e_lsub, ↓e_lmul, ↓e_land, ↓e_lor, ↓e_idiv, ↓e_irem, ↓e_ldiv, ↓e_lrem, ↓e_lshl, ↓e_lcmp, ↓e_i2l, ↓e_l2i, ↓e_i2b, ↓e_i2s, ↓e_dup_int, ↓e_pop_int, ↓e_dup_ref, ↓e_pop_ref, ↓e_dup2, ↓e_goto, ↓e_nop, ↓e_ifCond_eq, ↓e_if_icmp_eq, ↓e_ifCond_ne, ↓e_if_icmp_ne, ↓e_ifCond_lt, ↓e_if_icmp_lt, ↓e_ifCond_ge, ↓e_if_icmp_ge, ↓e_ifCond_gt, ↓e_if_icmp_gt, ↓e_ifCond_le, ↓e_if_icmp_le, ↓e_tab, ↓e_look, ↓e_get0, ↓e_get1, ↓e_get2, ↓e_get3, ↓e_put0, ↓e_put1, ↓e_put2, ↓e_put3, ↓e_iaload, ↓e_laload, ↓e_baload, ↓e_aaload, ↓e_iastore, ↓e_lastore, ↓e_bastore, ↓e_aastore, ↓e_alen, ↓e_new, ↓e_newarray, ↓e_anewarray, ↓e_objinit, ↓e_virt1, ↓e_virt2, ↓e_virt3, ↓e_virt4, ↓e_virt5, ↓e_virt6, ↓e_virt7, ↓e_stat0, ↓e_stat1, ↓e_stat2, ↓e_stat3, ↓e_stat4, ↓e_stat5, ↓e_stat6, ↓e_stat7, ↓e_spec1, ↓e_spec2, ↓e_spec3, ↓e_spec4, ↓e_spec5, ↓e_strlen, ↓e_charAt, ↓e_copy, ↓e_iret0, ↓e_iret1, ↓e_lret, ↓e_aret, ↓e_vret, zIsI_int, zIsL_long, zIsA_ref, zInt_int, true_and, and_true, ↓reduceIte, zGet, zSet, zSet2, zEnt, zWid, Value.category, List.map_cons, List.map_nil, List.sum_cons, List.sum_nil, List.replicate, Option.toList, Nat.reduceAdd, Nat.reduceSub, Nat.reduceMul, Nat.reduceLeDiff, Nat.reduceEqDiff, Nat.reduceLT, List.cons_append, List.nil_append, true_or, or_true, or_false, false_or, nI_ltI, nI_leI, nI_eq, nI_clamp, zIn_nI, bI_0, nI_add, nI_mul, nI_or, nI_and, nI_shl1, nI_bit, ↓pk_rem, pk_div, Nat.lt_irrefl, Nat.not_lt_zero, reduceCtorEq, G.k, sK_setI, sR_setI, sL_setI, sK_setR, sK_cpA, sR_cpA, x3, x4, xa, H.k, H.r15, n0, n20, not_false_eq_true, Nat.zero_add, Nat.le_refl, cpI_A, and_self, H.k8, G.k1, ↓cw, s1, ↓w5, gk1, show ¬ n + 1 < 1 by omega, show 1 ≤ n + 1 by omega, e0, es, q7]
theorem x_game (X : RXk σ a) (G : RPk σ) (H : ROff σ a A) (O : OfcOk A) (ha : 1 < a) (ha2 : a + 11 < 113) (v : Int32) :
   ∃ τ, Ag (fun b => b = 113 ∨ b = 114) σ τ ∧ RPk τ ∧ ∀ K, zC (d + 10) 197 [.ref 1, .int v] σ K = K (some (.int (A.qGame v).1)) (setI τ 1 0 (A.qGame v).2) := by
  unfold Ofc.qGame
  rcases ix_cases v (n := 3) (by omega) with ⟨h, e⟩ | ⟨h, h', e⟩ | ⟨n, hn, rfl⟩
  · rw [e]
    refine ⟨σ, Ag.rf, G, fun K => ?_⟩
    rw [E_197]
    simp (disch := omega) only [L_197_0, zt_197_0, L_197_9, zt_197_9, L_197_15, zt_197_15, ↓e_iconst0, ↓e_iconst1, ↓e_bipush0, ↓e_bipush1, ↓e_sipush0, ↓e_sipush1, ↓e_ldc0, ↓e_ldc1, ↓e_ldc_w0, ↓e_ldc_w1, ↓e_ldc2, ↓e_lconst0, ↓e_lconst1, ↓e_ldc2_w0, ↓e_ldc2_w1, ↓e_iload, ↓e_iload_n, ↓e_istore, ↓e_istore_n, ↓e_lload, ↓e_lload_n, ↓e_lstore, ↓e_lstore_n, ↓e_aload, ↓e_aload_n, ↓e_astore, ↓e_astore_n, ↓e_iinc0, ↓e_iinc1, ↓e_iadd, ↓e_isub, ↓e_imul, ↓e_iand, ↓e_ior, ↓e_ixor, ↓e_ishl, ↓e_ishr, ↓e_iushr, ↓e_ladd, ↓e_lsub, ↓e_lmul, ↓e_land, ↓e_lor, ↓e_idiv, ↓e_irem, ↓e_ldiv, ↓e_lrem, ↓e_lshl, ↓e_lcmp, ↓e_i2l, ↓e_l2i, ↓e_i2b, ↓e_i2s, ↓e_dup_int, ↓e_pop_int, ↓e_dup_ref, ↓e_pop_ref, ↓e_dup2, ↓e_goto, ↓e_nop, ↓e_ifCond_eq, ↓e_if_icmp_eq, ↓e_ifCond_ne, ↓e_if_icmp_ne, ↓e_ifCond_lt, ↓e_if_icmp_lt, ↓e_ifCond_ge, ↓e_if_icmp_ge, ↓e_ifCond_gt, ↓e_if_icmp_gt, ↓e_ifCond_le, ↓e_if_icmp_le, ↓e_tab, ↓e_look, ↓e_get0, ↓e_get1, ↓e_get2, ↓e_get3, ↓e_put0, ↓e_put1, ↓e_put2, ↓e_put3, ↓e_iaload, ↓e_laload, ↓e_baload, ↓e_aaload, ↓e_iastore, ↓e_lastore, ↓e_bastore, ↓e_aastore, ↓e_alen, ↓e_new, ↓e_newarray, ↓e_anewarray, ↓e_objinit, ↓e_virt1, ↓e_virt2, ↓e_virt3, ↓e_virt4, ↓e_virt5, ↓e_virt6, ↓e_virt7, ↓e_stat0, ↓e_stat1, ↓e_stat2, ↓e_stat3, ↓e_stat4, ↓e_stat5, ↓e_stat6, ↓e_stat7, ↓e_spec1, ↓e_spec2, ↓e_spec3, ↓e_spec4, ↓e_spec5, ↓e_strlen, ↓e_charAt, ↓e_copy, ↓e_iret0, ↓e_iret1, ↓e_lret, ↓e_aret, ↓e_vret, zIsI_int, zIsL_long, zIsA_ref, zInt_int, true_and, and_true, ↓reduceIte, zGet, zSet, zSet2, zEnt, zWid, Value.category, List.map_cons, List.map_nil, List.sum_cons, List.sum_nil, List.replicate, Option.toList, Nat.reduceAdd, Nat.reduceSub, Nat.reduceMul, Nat.reduceLeDiff, Nat.reduceEqDiff, Nat.reduceLT, List.cons_append, List.nil_append, true_or, or_true, or_false, false_or, X.k, X.r6, X.r10, X.r11, X.r12, X.r13, X.r14, X.r15, X.r16, X.r17, X.r18, nI_ltI, nI_leI, nI_eq, nI_clamp, zIn_nI, bI_0, nI_add, nI_mul, nI_or, nI_and, nI_shl1, nI_bit, ↓pk_rem, pk_div, Nat.lt_irrefl, Nat.not_lt_zero, reduceCtorEq, h, ↓x_refuse X]
  · rw [e]
    refine ⟨σ, Ag.rf, G, fun K => ?_⟩
    have h'' : ¬ v ≤ nI 3 := by rw [Int32.not_le]; exact h'
    rw [E_197]
    simp (disch := omega) only [L_197_0, zt_197_0, L_197_9, zt_197_9, L_197_15, zt_197_15, ↓e_iconst0, ↓e_iconst1, ↓e_bipush0, ↓e_bipush1, ↓e_sipush0, ↓e_sipush1, ↓e_ldc0, ↓e_ldc1, ↓e_ldc_w0, ↓e_ldc_w1, ↓e_ldc2, ↓e_lconst0, ↓e_lconst1, ↓e_ldc2_w0, ↓e_ldc2_w1, ↓e_iload, ↓e_iload_n, ↓e_istore, ↓e_istore_n, ↓e_lload, ↓e_lload_n, ↓e_lstore, ↓e_lstore_n, ↓e_aload, ↓e_aload_n, ↓e_astore, ↓e_astore_n, ↓e_iinc0, ↓e_iinc1, ↓e_iadd, ↓e_isub, ↓e_imul, ↓e_iand, ↓e_ior, ↓e_ixor, ↓e_ishl, ↓e_ishr, ↓e_iushr, ↓e_ladd, ↓e_lsub, ↓e_lmul, ↓e_land, ↓e_lor, ↓e_idiv, ↓e_irem, ↓e_ldiv, ↓e_lrem, ↓e_lshl, ↓e_lcmp, ↓e_i2l, ↓e_l2i, ↓e_i2b, ↓e_i2s, ↓e_dup_int, ↓e_pop_int, ↓e_dup_ref, ↓e_pop_ref, ↓e_dup2, ↓e_goto, ↓e_nop, ↓e_ifCond_eq, ↓e_if_icmp_eq, ↓e_ifCond_ne, ↓e_if_icmp_ne, ↓e_ifCond_lt, ↓e_if_icmp_lt, ↓e_ifCond_ge, ↓e_if_icmp_ge, ↓e_ifCond_gt, ↓e_if_icmp_gt, ↓e_ifCond_le, ↓e_if_icmp_le, ↓e_tab, ↓e_look, ↓e_get0, ↓e_get1, ↓e_get2, ↓e_get3, ↓e_put0, ↓e_put1, ↓e_put2, ↓e_put3, ↓e_iaload, ↓e_laload, ↓e_baload, ↓e_aaload, ↓e_iastore, ↓e_lastore, ↓e_bastore, ↓e_aastore, ↓e_alen, ↓e_new, ↓e_newarray, ↓e_anewarray, ↓e_objinit, ↓e_virt1, ↓e_virt2, ↓e_virt3, ↓e_virt4, ↓e_virt5, ↓e_virt6, ↓e_virt7, ↓e_stat0, ↓e_stat1, ↓e_stat2, ↓e_stat3, ↓e_stat4, ↓e_stat5, ↓e_stat6, ↓e_stat7, ↓e_spec1, ↓e_spec2, ↓e_spec3, ↓e_spec4, ↓e_spec5, ↓e_strlen, ↓e_charAt, ↓e_copy, ↓e_iret0, ↓e_iret1, ↓e_lret, ↓e_aret, ↓e_vret, zIsI_int, zIsL_long, zIsA_ref, zInt_int, true_and, and_true, ↓reduceIte, zGet, zSet, zSet2, zEnt, zWid, Value.category, List.map_cons, List.map_nil, List.sum_cons, List.sum_nil, List.replicate, Option.toList, Nat.reduceAdd, Nat.reduceSub, Nat.reduceMul, Nat.reduceLeDiff, Nat.reduceEqDiff, Nat.reduceLT, List.cons_append, List.nil_append, true_or, or_true, or_false, false_or, X.k, X.r6, X.r10, X.r11, X.r12, X.r13, X.r14, X.r15, X.r16, X.r17, X.r18, nI_ltI, nI_leI, nI_eq, nI_clamp, zIn_nI, bI_0, nI_add, nI_mul, nI_or, nI_and, nI_shl1, nI_bit, ↓pk_rem, pk_div, Nat.lt_irrefl, Nat.not_lt_zero, reduceCtorEq, h, h', h'', ↓x_refuse X]
  · rw [ix_t hn (by omega)]
    dsimp only
    obtain ⟨τ, f, G1, g0, _, c⟩ := c_seekG (d := d) G H O ha2 (n := n) (by omega)
    have X1 := X.ag f (by omega)
    refine ⟨τ, f, G1, fun K => ?_⟩
    rw [E_197]
    simp (disch := omega) only [L_197_0, zt_197_0, L_197_9, zt_197_9, L_197_15, zt_197_15, ↓e_iconst0, ↓e_iconst1, ↓e_bipush0, ↓e_bipush1, ↓e_sipush0, ↓e_sipush1, ↓e_ldc0, ↓e_ldc1, ↓e_ldc_w0, ↓e_ldc_w1, ↓e_ldc2, ↓e_lconst0, ↓e_lconst1, ↓e_ldc2_w0, ↓e_ldc2_w1, ↓e_iload, ↓e_iload_n, ↓e_istore, ↓e_istore_n, ↓e_lload, ↓e_lload_n, ↓e_lstore, ↓e_lstore_n, ↓e_aload, ↓e_aload_n, ↓e_astore, ↓e_astore_n, ↓e_iinc0, ↓e_iinc1, ↓e_iadd, ↓e_isub, ↓e_imul, ↓e_iand, ↓e_ior, ↓e_ixor, ↓e_ishl, ↓e_ishr, ↓e_iushr, ↓e_ladd, ↓e_lsub, ↓e_lmul, ↓e_land, ↓e_lor, ↓e_idiv, ↓e_irem, ↓e_ldiv, ↓e_lrem, ↓e_lshl, ↓e_lcmp, ↓e_i2l, ↓e_l2i, ↓e_i2b, ↓e_i2s, ↓e_dup_int, ↓e_pop_int, ↓e_dup_ref, ↓e_pop_ref, ↓e_dup2, ↓e_goto, ↓e_nop, ↓e_ifCond_eq, ↓e_if_icmp_eq, ↓e_ifCond_ne, ↓e_if_icmp_ne, ↓e_ifCond_lt, ↓e_if_icmp_lt, ↓e_ifCond_ge, ↓e_if_icmp_ge, ↓e_ifCond_gt, ↓e_if_icmp_gt, ↓e_ifCond_le, ↓e_if_icmp_le, ↓e_tab, ↓e_look, ↓e_get0, ↓e_get1, ↓e_get2, ↓e_get3, ↓e_put0, ↓e_put1, ↓e_put2, ↓e_put3, ↓e_iaload, ↓e_laload, ↓e_baload, ↓e_aaload, ↓e_iastore, ↓e_lastore, ↓e_bastore, ↓e_aastore, ↓e_alen, ↓e_new, ↓e_newarray, ↓e_anewarray, ↓e_objinit, ↓e_virt1, ↓e_virt2, ↓e_virt3, ↓e_virt4, ↓e_virt5, ↓e_virt6, ↓e_virt7, ↓e_stat0, ↓e_stat1, ↓e_stat2, ↓e_stat3, ↓e_stat4, ↓e_stat5, ↓e_stat6, ↓e_stat7, ↓e_spec1, ↓e_spec2, ↓e_spec3, ↓e_spec4, ↓e_spec5, ↓e_strlen, ↓e_charAt, ↓e_copy, ↓e_iret0, ↓e_iret1, ↓e_lret, ↓e_aret, ↓e_vret, zIsI_int, zIsL_long, zIsA_ref, zInt_int, true_and, and_true, ↓reduceIte, zGet, zSet, zSet2, zEnt, zWid, Value.category, List.map_cons, List.map_nil, List.sum_cons, List.sum_nil, List.replicate, Option.toList, Nat.reduceAdd, Nat.reduceSub, Nat.reduceMul, Nat.reduceLeDiff, Nat.reduceEqDiff, Nat.reduceLT, List.cons_append, List.nil_append, true_or, or_true, or_false, false_or, X.k, X.r6, X.r10, X.r11, X.r12, X.r13, X.r14, X.r15, X.r16, X.r17, X.r18, nI_ltI, nI_leI, nI_eq, nI_clamp, zIn_nI, bI_0, nI_add, nI_mul, nI_or, nI_and, nI_shl1, nI_bit, ↓pk_rem, pk_div, Nat.lt_irrefl, Nat.not_lt_zero, reduceCtorEq, show ¬ 3 < n by omega, show n ≤ 3 by omega, G.k, ↓c, X1.k, X1.r17, G1.k, g0, ↓x_answer X1]
theorem x_moveOf (X : RXk σ a) (G : RPk σ) (H : ROff σ a A) (O : OfcOk A) (ha : 1 < a) (ha2 : a + 11 < 113) (v : Int32) :
   ∃ τ, Ag (fun b => b = 113 ∨ b = 114) σ τ ∧ RPk τ ∧ ∀ K, zC (d + 10) 198 [.ref 1, .int v] σ K = K (some (.int (A.qMoveOf v).1)) (setI τ 1 0 (A.qMoveOf v).2) := by
  unfold Ofc.qMoveOf
  rcases ix_cases v (n := 3) (by omega) with ⟨h, e⟩ | ⟨h, h', e⟩ | ⟨n, hn, rfl⟩
  · rw [e]
    have h1 : v < nI 1 := by
      rw [Int32.lt_iff_toInt_lt] at h ⊢
      rw [show (nI 0).toInt = 0 from by decide] at h
      rw [show (nI 1).toInt = 1 from by decide]
      omega
    refine ⟨σ, Ag.rf, G, fun K => ?_⟩
    rw [E_198]
    simp (disch := omega) only [L_198_0, zt_198_0, L_198_10, zt_198_10, L_198_16, zt_198_16, L_198_46, zt_198_46, ↓e_iconst0, ↓e_iconst1, ↓e_bipush0, ↓e_bipush1, ↓e_sipush0, ↓e_sipush1, ↓e_ldc0, ↓e_ldc1, ↓e_ldc_w0, ↓e_ldc_w1, ↓e_ldc2, ↓e_lconst0, ↓e_lconst1, ↓e_ldc2_w0, ↓e_ldc2_w1, ↓e_iload, ↓e_iload_n, ↓e_istore, ↓e_istore_n, ↓e_lload, ↓e_lload_n, ↓e_lstore, ↓e_lstore_n, ↓e_aload, ↓e_aload_n, ↓e_astore, ↓e_astore_n, ↓e_iinc0, ↓e_iinc1, ↓e_iadd, ↓e_isub, ↓e_imul, ↓e_iand, ↓e_ior, ↓e_ixor, ↓e_ishl, ↓e_ishr, ↓e_iushr, ↓e_ladd, ↓e_lsub, ↓e_lmul, ↓e_land, ↓e_lor, ↓e_idiv, ↓e_irem, ↓e_ldiv, ↓e_lrem, ↓e_lshl, ↓e_lcmp, ↓e_i2l, ↓e_l2i, ↓e_i2b, ↓e_i2s, ↓e_dup_int, ↓e_pop_int, ↓e_dup_ref, ↓e_pop_ref, ↓e_dup2, ↓e_goto, ↓e_nop, ↓e_ifCond_eq, ↓e_if_icmp_eq, ↓e_ifCond_ne, ↓e_if_icmp_ne, ↓e_ifCond_lt, ↓e_if_icmp_lt, ↓e_ifCond_ge, ↓e_if_icmp_ge, ↓e_ifCond_gt, ↓e_if_icmp_gt, ↓e_ifCond_le, ↓e_if_icmp_le, ↓e_tab, ↓e_look, ↓e_get0, ↓e_get1, ↓e_get2, ↓e_get3, ↓e_put0, ↓e_put1, ↓e_put2, ↓e_put3, ↓e_iaload, ↓e_laload, ↓e_baload, ↓e_aaload, ↓e_iastore, ↓e_lastore, ↓e_bastore, ↓e_aastore, ↓e_alen, ↓e_new, ↓e_newarray, ↓e_anewarray, ↓e_objinit, ↓e_virt1, ↓e_virt2, ↓e_virt3, ↓e_virt4, ↓e_virt5, ↓e_virt6, ↓e_virt7, ↓e_stat0, ↓e_stat1, ↓e_stat2, ↓e_stat3, ↓e_stat4, ↓e_stat5, ↓e_stat6, ↓e_stat7, ↓e_spec1, ↓e_spec2, ↓e_spec3, ↓e_spec4, ↓e_spec5, ↓e_strlen, ↓e_charAt, ↓e_copy, ↓e_iret0, ↓e_iret1, ↓e_lret, ↓e_aret, ↓e_vret, zIsI_int, zIsL_long, zIsA_ref, zInt_int, true_and, and_true, ↓reduceIte, zGet, zSet, zSet2, zEnt, zWid, Value.category, List.map_cons, List.map_nil, List.sum_cons, List.sum_nil, List.replicate, Option.toList, Nat.reduceAdd, Nat.reduceSub, Nat.reduceMul, Nat.reduceLeDiff, Nat.reduceEqDiff, Nat.reduceLT, List.cons_append, List.nil_append, true_or, or_true, or_false, false_or, X.k, X.r6, X.r10, X.r11, X.r12, X.r13, X.r14, X.r15, X.r16, X.r17, X.r18, nI_ltI, nI_leI, nI_eq, nI_clamp, zIn_nI, bI_0, nI_add, nI_mul, nI_or, nI_and, nI_shl1, nI_bit, ↓pk_rem, pk_div, Nat.lt_irrefl, Nat.not_lt_zero, reduceCtorEq, h1, ↓x_refuse X]
  · rw [e]
    refine ⟨σ, Ag.rf, G, fun K => ?_⟩
    have h'' : ¬ v ≤ nI 3 := by rw [Int32.not_le]; exact h'
    have h1 : ¬ v < nI 1 := by
      rw [Int32.lt_iff_toInt_lt] at h' ⊢
      rw [show (nI 3).toInt = 3 from by decide] at h'
      rw [show (nI 1).toInt = 1 from by decide]
      omega
    rw [E_198]
    simp (disch := omega) only [L_198_0, zt_198_0, L_198_10, zt_198_10, L_198_16, zt_198_16, L_198_46, zt_198_46, ↓e_iconst0, ↓e_iconst1, ↓e_bipush0, ↓e_bipush1, ↓e_sipush0, ↓e_sipush1, ↓e_ldc0, ↓e_ldc1, ↓e_ldc_w0, ↓e_ldc_w1, ↓e_ldc2, ↓e_lconst0, ↓e_lconst1, ↓e_ldc2_w0, ↓e_ldc2_w1, ↓e_iload, ↓e_iload_n, ↓e_istore, ↓e_istore_n, ↓e_lload, ↓e_lload_n, ↓e_lstore, ↓e_lstore_n, ↓e_aload, ↓e_aload_n, ↓e_astore, ↓e_astore_n, ↓e_iinc0, ↓e_iinc1, ↓e_iadd, ↓e_isub, ↓e_imul, ↓e_iand, ↓e_ior, ↓e_ixor, ↓e_ishl, ↓e_ishr, ↓e_iushr, ↓e_ladd, ↓e_lsub, ↓e_lmul, ↓e_land, ↓e_lor, ↓e_idiv, ↓e_irem, ↓e_ldiv, ↓e_lrem, ↓e_lshl, ↓e_lcmp, ↓e_i2l, ↓e_l2i, ↓e_i2b, ↓e_i2s, ↓e_dup_int, ↓e_pop_int, ↓e_dup_ref, ↓e_pop_ref, ↓e_dup2, ↓e_goto, ↓e_nop, ↓e_ifCond_eq, ↓e_if_icmp_eq, ↓e_ifCond_ne, ↓e_if_icmp_ne, ↓e_ifCond_lt, ↓e_if_icmp_lt, ↓e_ifCond_ge, ↓e_if_icmp_ge, ↓e_ifCond_gt, ↓e_if_icmp_gt, ↓e_ifCond_le, ↓e_if_icmp_le, ↓e_tab, ↓e_look, ↓e_get0, ↓e_get1, ↓e_get2, ↓e_get3, ↓e_put0, ↓e_put1, ↓e_put2, ↓e_put3, ↓e_iaload, ↓e_laload, ↓e_baload, ↓e_aaload, ↓e_iastore, ↓e_lastore, ↓e_bastore, ↓e_aastore, ↓e_alen, ↓e_new, ↓e_newarray, ↓e_anewarray, ↓e_objinit, ↓e_virt1, ↓e_virt2, ↓e_virt3, ↓e_virt4, ↓e_virt5, ↓e_virt6, ↓e_virt7, ↓e_stat0, ↓e_stat1, ↓e_stat2, ↓e_stat3, ↓e_stat4, ↓e_stat5, ↓e_stat6, ↓e_stat7, ↓e_spec1, ↓e_spec2, ↓e_spec3, ↓e_spec4, ↓e_spec5, ↓e_strlen, ↓e_charAt, ↓e_copy, ↓e_iret0, ↓e_iret1, ↓e_lret, ↓e_aret, ↓e_vret, zIsI_int, zIsL_long, zIsA_ref, zInt_int, true_and, and_true, ↓reduceIte, zGet, zSet, zSet2, zEnt, zWid, Value.category, List.map_cons, List.map_nil, List.sum_cons, List.sum_nil, List.replicate, Option.toList, Nat.reduceAdd, Nat.reduceSub, Nat.reduceMul, Nat.reduceLeDiff, Nat.reduceEqDiff, Nat.reduceLT, List.cons_append, List.nil_append, true_or, or_true, or_false, false_or, X.k, X.r6, X.r10, X.r11, X.r12, X.r13, X.r14, X.r15, X.r16, X.r17, X.r18, nI_ltI, nI_leI, nI_eq, nI_clamp, zIn_nI, bI_0, nI_add, nI_mul, nI_or, nI_and, nI_shl1, nI_bit, ↓pk_rem, pk_div, Nat.lt_irrefl, Nat.not_lt_zero, reduceCtorEq, h1, h', h'', ↓x_refuse X]
  · rw [ix_t hn (by omega)]
    dsimp only
    by_cases h0 : n = 0
    · subst h0
      refine ⟨σ, Ag.rf, G, fun K => ?_⟩
      rw [if_pos rfl, E_198]
      simp (disch := omega) only [L_198_0, zt_198_0, L_198_10, zt_198_10, L_198_16, zt_198_16, L_198_46, zt_198_46, ↓e_iconst0, ↓e_iconst1, ↓e_bipush0, ↓e_bipush1, ↓e_sipush0, ↓e_sipush1, ↓e_ldc0, ↓e_ldc1, ↓e_ldc_w0, ↓e_ldc_w1, ↓e_ldc2, ↓e_lconst0, ↓e_lconst1, ↓e_ldc2_w0, ↓e_ldc2_w1, ↓e_iload, ↓e_iload_n, ↓e_istore, ↓e_istore_n, ↓e_lload, ↓e_lload_n, ↓e_lstore, ↓e_lstore_n, ↓e_aload, ↓e_aload_n, ↓e_astore, ↓e_astore_n, ↓e_iinc0, ↓e_iinc1, ↓e_iadd, ↓e_isub, ↓e_imul, ↓e_iand, ↓e_ior, ↓e_ixor, ↓e_ishl, ↓e_ishr, ↓e_iushr, ↓e_ladd, ↓e_lsub, ↓e_lmul, ↓e_land, ↓e_lor, ↓e_idiv, ↓e_irem, ↓e_ldiv, ↓e_lrem, ↓e_lshl, ↓e_lcmp, ↓e_i2l, ↓e_l2i, ↓e_i2b, ↓e_i2s, ↓e_dup_int, ↓e_pop_int, ↓e_dup_ref, ↓e_pop_ref, ↓e_dup2, ↓e_goto, ↓e_nop, ↓e_ifCond_eq, ↓e_if_icmp_eq, ↓e_ifCond_ne, ↓e_if_icmp_ne, ↓e_ifCond_lt, ↓e_if_icmp_lt, ↓e_ifCond_ge, ↓e_if_icmp_ge, ↓e_ifCond_gt, ↓e_if_icmp_gt, ↓e_ifCond_le, ↓e_if_icmp_le, ↓e_tab, ↓e_look, ↓e_get0, ↓e_get1, ↓e_get2, ↓e_get3, ↓e_put0, ↓e_put1, ↓e_put2, ↓e_put3, ↓e_iaload, ↓e_laload, ↓e_baload, ↓e_aaload, ↓e_iastore, ↓e_lastore, ↓e_bastore, ↓e_aastore, ↓e_alen, ↓e_new, ↓e_newarray, ↓e_anewarray, ↓e_objinit, ↓e_virt1, ↓e_virt2, ↓e_virt3, ↓e_virt4, ↓e_virt5, ↓e_virt6, ↓e_virt7, ↓e_stat0, ↓e_stat1, ↓e_stat2, ↓e_stat3, ↓e_stat4, ↓e_stat5, ↓e_stat6, ↓e_stat7, ↓e_spec1, ↓e_spec2, ↓e_spec3, ↓e_spec4, ↓e_spec5, ↓e_strlen, ↓e_charAt, ↓e_copy, ↓e_iret0, ↓e_iret1, ↓e_lret, ↓e_aret, ↓e_vret, zIsI_int, zIsL_long, zIsA_ref, zInt_int, true_and, and_true, ↓reduceIte, zGet, zSet, zSet2, zEnt, zWid, Value.category, List.map_cons, List.map_nil, List.sum_cons, List.sum_nil, List.replicate, Option.toList, Nat.reduceAdd, Nat.reduceSub, Nat.reduceMul, Nat.reduceLeDiff, Nat.reduceEqDiff, Nat.reduceLT, List.cons_append, List.nil_append, true_or, or_true, or_false, false_or, X.k, X.r6, X.r10, X.r11, X.r12, X.r13, X.r14, X.r15, X.r16, X.r17, X.r18, nI_ltI, nI_leI, nI_eq, nI_clamp, zIn_nI, bI_0, nI_add, nI_mul, nI_or, nI_and, nI_shl1, nI_bit, ↓pk_rem, pk_div, Nat.lt_irrefl, Nat.not_lt_zero, reduceCtorEq, ↓x_refuse X]
    · obtain ⟨τ, f, G1, g0, g1, c⟩ := c_seekG (d := d) G H O ha2 (n := n) (by omega)
      have X1 := X.ag f (by omega)
      refine ⟨τ, f, G1, fun K => ?_⟩
      rw [if_neg h0, E_198]
      rcases g1 (by omega) with ⟨x, y, e1, e2, e3, e4, e5⟩ | ⟨e1, e2⟩
      · have nm : ¬ nI x = -nI 1 := fun hh => nI_pos (n := x) (by omega) (by rw [hh]; decide)
        rw [e1]
        simp (disch := omega) only [L_198_0, zt_198_0, L_198_10, zt_198_10, L_198_16, zt_198_16, L_198_46, zt_198_46, ↓e_iconst0, ↓e_iconst1, ↓e_bipush0, ↓e_bipush1, ↓e_sipush0, ↓e_sipush1, ↓e_ldc0, ↓e_ldc1, ↓e_ldc_w0, ↓e_ldc_w1, ↓e_ldc2, ↓e_lconst0, ↓e_lconst1, ↓e_ldc2_w0, ↓e_ldc2_w1, ↓e_iload, ↓e_iload_n, ↓e_istore, ↓e_istore_n, ↓e_lload, ↓e_lload_n, ↓e_lstore, ↓e_lstore_n, ↓e_aload, ↓e_aload_n, ↓e_astore, ↓e_astore_n, ↓e_iinc0, ↓e_iinc1, ↓e_iadd, ↓e_isub, ↓e_imul, ↓e_iand, ↓e_ior, ↓e_ixor, ↓e_ishl, ↓e_ishr, ↓e_iushr, ↓e_ladd, ↓e_lsub, ↓e_lmul, ↓e_land, ↓e_lor, ↓e_idiv, ↓e_irem, ↓e_ldiv, ↓e_lrem, ↓e_lshl, ↓e_lcmp, ↓e_i2l, ↓e_l2i, ↓e_i2b, ↓e_i2s, ↓e_dup_int, ↓e_pop_int, ↓e_dup_ref, ↓e_pop_ref, ↓e_dup2, ↓e_goto, ↓e_nop, ↓e_ifCond_eq, ↓e_if_icmp_eq, ↓e_ifCond_ne, ↓e_if_icmp_ne, ↓e_ifCond_lt, ↓e_if_icmp_lt, ↓e_ifCond_ge, ↓e_if_icmp_ge, ↓e_ifCond_gt, ↓e_if_icmp_gt, ↓e_ifCond_le, ↓e_if_icmp_le, ↓e_tab, ↓e_look, ↓e_get0, ↓e_get1, ↓e_get2, ↓e_get3, ↓e_put0, ↓e_put1, ↓e_put2, ↓e_put3, ↓e_iaload, ↓e_laload, ↓e_baload, ↓e_aaload, ↓e_iastore, ↓e_lastore, ↓e_bastore, ↓e_aastore, ↓e_alen, ↓e_new, ↓e_newarray, ↓e_anewarray, ↓e_objinit, ↓e_virt1, ↓e_virt2, ↓e_virt3, ↓e_virt4, ↓e_virt5, ↓e_virt6, ↓e_virt7, ↓e_stat0, ↓e_stat1, ↓e_stat2, ↓e_stat3, ↓e_stat4, ↓e_stat5, ↓e_stat6, ↓e_stat7, ↓e_spec1, ↓e_spec2, ↓e_spec3, ↓e_spec4, ↓e_spec5, ↓e_strlen, ↓e_charAt, ↓e_copy, ↓e_iret0, ↓e_iret1, ↓e_lret, ↓e_aret, ↓e_vret, zIsI_int, zIsL_long, zIsA_ref, zInt_int, true_and, and_true, ↓reduceIte, zGet, zSet, zSet2, zEnt, zWid, Value.category, List.map_cons, List.map_nil, List.sum_cons, List.sum_nil, List.replicate, Option.toList, Nat.reduceAdd, Nat.reduceSub, Nat.reduceMul, Nat.reduceLeDiff, Nat.reduceEqDiff, Nat.reduceLT, List.cons_append, List.nil_append, true_or, or_true, or_false, false_or, X.k, X.r6, X.r10, X.r11, X.r12, X.r13, X.r14, X.r15, X.r16, X.r17, X.r18, nI_ltI, nI_leI, nI_eq, nI_clamp, zIn_nI, bI_0, nI_add, nI_mul, nI_or, nI_and, nI_shl1, nI_bit, ↓pk_rem, pk_div, Nat.lt_irrefl, Nat.not_lt_zero, reduceCtorEq, show ¬ n < 1 by omega, show ¬ 3 < n by omega, show n ≤ 3 by omega, G.k, ↓c, X1.k, X1.r17, G1.k, e2, e3, nm, ↓x_answer X1]
      · rw [e1]
        simp (disch := omega) only [L_198_0, zt_198_0, L_198_10, zt_198_10, L_198_16, zt_198_16, L_198_46, zt_198_46, ↓e_iconst0, ↓e_iconst1, ↓e_bipush0, ↓e_bipush1, ↓e_sipush0, ↓e_sipush1, ↓e_ldc0, ↓e_ldc1, ↓e_ldc_w0, ↓e_ldc_w1, ↓e_ldc2, ↓e_lconst0, ↓e_lconst1, ↓e_ldc2_w0, ↓e_ldc2_w1, ↓e_iload, ↓e_iload_n, ↓e_istore, ↓e_istore_n, ↓e_lload, ↓e_lload_n, ↓e_lstore, ↓e_lstore_n, ↓e_aload, ↓e_aload_n, ↓e_astore, ↓e_astore_n, ↓e_iinc0, ↓e_iinc1, ↓e_iadd, ↓e_isub, ↓e_imul, ↓e_iand, ↓e_ior, ↓e_ixor, ↓e_ishl, ↓e_ishr, ↓e_iushr, ↓e_ladd, ↓e_lsub, ↓e_lmul, ↓e_land, ↓e_lor, ↓e_idiv, ↓e_irem, ↓e_ldiv, ↓e_lrem, ↓e_lshl, ↓e_lcmp, ↓e_i2l, ↓e_l2i, ↓e_i2b, ↓e_i2s, ↓e_dup_int, ↓e_pop_int, ↓e_dup_ref, ↓e_pop_ref, ↓e_dup2, ↓e_goto, ↓e_nop, ↓e_ifCond_eq, ↓e_if_icmp_eq, ↓e_ifCond_ne, ↓e_if_icmp_ne, ↓e_ifCond_lt, ↓e_if_icmp_lt, ↓e_ifCond_ge, ↓e_if_icmp_ge, ↓e_ifCond_gt, ↓e_if_icmp_gt, ↓e_ifCond_le, ↓e_if_icmp_le, ↓e_tab, ↓e_look, ↓e_get0, ↓e_get1, ↓e_get2, ↓e_get3, ↓e_put0, ↓e_put1, ↓e_put2, ↓e_put3, ↓e_iaload, ↓e_laload, ↓e_baload, ↓e_aaload, ↓e_iastore, ↓e_lastore, ↓e_bastore, ↓e_aastore, ↓e_alen, ↓e_new, ↓e_newarray, ↓e_anewarray, ↓e_objinit, ↓e_virt1, ↓e_virt2, ↓e_virt3, ↓e_virt4, ↓e_virt5, ↓e_virt6, ↓e_virt7, ↓e_stat0, ↓e_stat1, ↓e_stat2, ↓e_stat3, ↓e_stat4, ↓e_stat5, ↓e_stat6, ↓e_stat7, ↓e_spec1, ↓e_spec2, ↓e_spec3, ↓e_spec4, ↓e_spec5, ↓e_strlen, ↓e_charAt, ↓e_copy, ↓e_iret0, ↓e_iret1, ↓e_lret, ↓e_aret, ↓e_vret, zIsI_int, zIsL_long, zIsA_ref, zInt_int, true_and, and_true, ↓reduceIte, zGet, zSet, zSet2, zEnt, zWid, Value.category, List.map_cons, List.map_nil, List.sum_cons, List.sum_nil, List.replicate, Option.toList, Nat.reduceAdd, Nat.reduceSub, Nat.reduceMul, Nat.reduceLeDiff, Nat.reduceEqDiff, Nat.reduceLT, List.cons_append, List.nil_append, true_or, or_true, or_false, false_or, X.k, X.r6, X.r10, X.r11, X.r12, X.r13, X.r14, X.r15, X.r16, X.r17, X.r18, nI_ltI, nI_leI, nI_eq, nI_clamp, zIn_nI, bI_0, nI_add, nI_mul, nI_or, nI_and, nI_shl1, nI_bit, ↓pk_rem, pk_div, Nat.lt_irrefl, Nat.not_lt_zero, reduceCtorEq, show ¬ n < 1 by omega, show ¬ 3 < n by omega, show n ≤ 3 by omega, G.k, ↓c, X1.k, X1.r17, G1.k, e2, ↓x_refuse X1]
end GMX3
