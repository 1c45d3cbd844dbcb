/-! WHAT A REGISTRY'S TEXT SAYS -/
abbrev Er : Type := Nat × Nat
abbrev Fl : Type := Bool × Bool × Bool
def okR {α : Type} (x : Er ⊕ α) : Bool := match x with
  | .inl _ => false
  | .inr _ => true
def kE {α : Type} (B : Nat → Nat) (n : Nat) (T : Tk) (f : Tk → Er ⊕ α) : Er ⊕ α := if isS B T 59 = true then f (nx B n T) else .inl (cs T, T.2.1)
def kW {α : Type} (B : Nat → Nat) (n w : Nat) (T : Tk) (f : Tk → Er ⊕ α) : Er ⊕ α := if isW B T w = true then f (nx B n T) else .inl (cs T, T.2.1)
def kN {α : Type} (B : Nat → Nat) (n lo hi : Nat) (T : Tk) (f : Nat → Tk → Er ⊕ α) : Er ⊕ α := if T.1 = 3 then (if inN B T lo hi = true then f (tv B T) (nx B n T) else .inl (4, T.2.1)) else .inl (cs T, T.2.1)
def kA {α : Type} (B : Nat → Nat) (n : Nat) (A : Ofc) (T : Tk) (f : List Nat → Tk → Er ⊕ α) : Er ⊕ α := if isNm B T = true then (if A.tkn (tw B T) = true then .inl (3, T.2.1) else f (tw B T) (nx B n T)) else .inl (cs T, T.2.1)
def qMark (B : Nat → Nat) (n : Nat) (A : Ofc) (T : Tk) : Er ⊕ (Ofc × Tk) := if A.nt = 8 then .inl (6, T.2.1) else kA B n A (nx B n T) fun l T => kW B n 5 T fun T => kN B n 1 9 T fun v T => .inr ((A.addT l).setW (updN (A.addT l).w A.nt v), T)
def qMarks (B : Nat → Nat) (n p : Nat) : Nat → Ofc → Tk → Er ⊕ (Ofc × Tk)
  | 0, A, T => .inr (A, T)
  | m + 1, A, T => if isS B T 59 = true then .inr (A, T) else if isNm B T = true then (match A.tOf (tw B T) with
    | none => .inl (3, T.2.1)
    | some t => if (A.tr p).testBit t = true then .inl (5, T.2.1) else qMarks B n p m (A.setTr (updN A.tr p (A.tr p ||| 2 ^ t))) (nx B n T)) else .inl (cs T, T.2.1)
def qPaper (B : Nat → Nat) (n : Nat) (A : Ofc) (T : Tk) : Er ⊕ (Ofc × Tk) := if A.np = 8 then .inl (6, T.2.1) else kA B n A (nx B n T) fun l T => qMarks B n A.np 9 (A.addP l 0) T
def qClerk (B : Nat → Nat) (n : Nat) (A : Ofc) (T : Tk) : Er ⊕ (Ofc × Tk) := if A.nc = 4 then .inl (6, T.2.1) else kA B n A (nx B n T) fun l T => kW B n 8 T fun T => kN B n 0 (A.wide * A.high - 1) T fun v T => .inr ((A.addC l).setCk (updN (A.addC l).ck A.nc v), T)
def qLies (B : Nat → Nat) (n : Nat) (A : Ofc) (T : Tk) : Er ⊕ (Ofc × Tk) := if isNm B (nx B n T) = true then (match A.pOf (tw B (nx B n T)) with
  | none => .inl (3, (nx B n T).2.1)
  | some p => if (A.pl p).isSome = true then .inl (5, (nx B n T).2.1) else kW B n 8 (nx B n (nx B n T)) fun T => if T.1 = 3 then (if inN B T 0 (A.wide * A.high - 1) = true then (if (A.who (tv B T)).isSome = true then .inl (5, T.2.1) else .inr (A.put p (tv B T), nx B n T)) else .inl (4, T.2.1)) else .inl (cs T, T.2.1)) else .inl (cs (nx B n T), (nx B n T).2.1)
def qFloor (B : Nat → Nat) (n : Nat) (A : Ofc) (T : Tk) : Er ⊕ (Ofc × Tk) := kN B n 1 5 (nx B n T) fun w T => kW B n 1 T fun T => kN B n 1 4 T fun h T => .inr (A.flr w h, T)
def qNear (B : Nat → Nat) (n : Nat) (A : Ofc) (T : Tk) : Er ⊕ (Ofc × Tk) := kN B n 1 99 (nx B n T) fun v T => .inr (A.setN 3 v, T)
def qOdds (B : Nat → Nat) (n : Nat) (A : Ofc) (T : Tk) : Er ⊕ (Ofc × Tk) := kN B n 0 16 (nx B n T) fun v T => .inr (A.setN 4 v, T)
def toE (B : Nat → Nat) (n : Nat) (x : Er ⊕ (Ofc × Tk)) (F : Fl) : Er ⊕ ((Ofc × Fl) × Tk) := match x with
  | .inl e => .inl e
  | .inr (A, T) => kE B n T fun T => .inr ((A, F), T)
def qPart (B : Nat → Nat) (n : Nat) (A : Ofc) (F : Fl) (T : Tk) : Er ⊕ ((Ofc × Fl) × Tk) := if T.1 = 2 then (match wno (tw B T) with
  | some 0 => if F.1 = true ∨ 0 < A.nc ∨ A.lying ≠ 0 then .inl (5, T.2.1) else toE B n (qFloor B n A T) (true, F.2)
  | some 2 => if F.2.1 = true then .inl (5, T.2.1) else toE B n (qNear B n A T) (F.1, true, F.2.2)
  | some 3 => if F.2.2 = true then .inl (5, T.2.1) else toE B n (qOdds B n A T) (F.1, F.2.1, true)
  | some 4 => toE B n (qMark B n A T) F
  | some 6 => toE B n (qPaper B n A T) F
  | some 7 => toE B n (qClerk B n A T) F
  | some 9 => toE B n (qLies B n A T) F
  | _ => .inl (cs T, T.2.1)) else .inl (cs T, T.2.1)
def qAll (B : Nat → Nat) (n : Nat) : Nat → Ofc → Fl → Tk → Er ⊕ Ofc
  | 0, A, _, _ => .inr A
  | m + 1, A, F, T => if T.1 = 0 then .inr A else (match qPart B n A F T with
    | .inl e => .inl e
    | .inr x => qAll B n m x.1.1 x.1.2 x.2)
/-- what the text of n bytes says -/
def qText (B : Nat → Nat) (n : Nat) : Er ⊕ Ofc := qAll B n 901 Ofc.nil (false, false, false) (tk B n 0)
section SPE
variable {B : Nat → Nat} {n : Nat} {A : Ofc} {T : Tk}
theorem cs_le (T : Tk) : 1 ≤ cs T ∧ cs T ≤ 2 := by unfold cs; split <;> omega
theorem gd_e {k s : Nat} (h1 : 1 ≤ k) (h2 : k ≤ 6) : 1 ≤ ((k, s) : Er).1 ∧ ((k, s) : Er).1 ≤ 6 := ⟨h1, h2⟩
/-- good to go on with -/
def Gd (B : Nat → Nat) (n : Nat) (A : Ofc) (T : Tk) : Prop := OfcOk A ∧ NmOk A ∧ TkOk B n T
/-- what is told at the end of a part -/
def GdP (B : Nat → Nat) (n s : Nat) (x : Er ⊕ (Ofc × Tk)) : Prop := match x with
  | .inl e => 1 ≤ e.1 ∧ e.1 ≤ 6
  | .inr y => Gd B n y.1 y.2 ∧ s ≤ y.2.2.1
theorem nx_lt (H : TkOk B n T) (h : T.1 ≠ 0) : T.2.1 < (nx B n T).2.1 := by
  have := nx_le H
  have := H.nz h
  omega
theorem addT_nm (N : NmOk A) {l : List Nat} (hl : Nm l) (v : Nat) : NmOk ((A.addT l).setW (updN (A.addT l).w A.nt v)) := by
  refine NmOk.mk (fun t ht => ?_) (fun p hp => N.p p hp) (fun c hc => N.c c hc)
  have ht : t < A.nt + 1 := ht
  show Nm (updS A.tn A.nt l t)
  unfold updS
  by_cases e : t = A.nt
  · rw [if_pos e]; exact hl
  · rw [if_neg e]; exact N.t t (by omega)
theorem addC_nm (N : NmOk A) {l : List Nat} (hl : Nm l) (v : Nat) : NmOk ((A.addC l).setCk (updN (A.addC l).ck A.nc v)) := by
  refine NmOk.mk (fun t ht => N.t t ht) (fun p hp => N.p p hp) (fun c hc => ?_)
  have hc : c < A.nc + 1 := hc
  show Nm (updS A.cn A.nc l c)
  unfold updS
  by_cases e : c = A.nc
  · rw [if_pos e]; exact hl
  · rw [if_neg e]; exact N.c c (by omega)
theorem addP_nm (N : NmOk A) {l : List Nat} (hl : l = [] ∨ Nm l) (v : Nat) : NmOk (A.addP l v) := by
  refine NmOk.mk (fun t ht => N.t t ht) (fun p hp => ?_) (fun c hc => N.c c hc)
  have hp : p < A.np + 1 := hp
  show updS A.pn A.np l p = [] ∨ Nm (updS A.pn A.np l p)
  unfold updS
  by_cases e : p = A.np
  · rw [if_pos e]; exact hl
  · rw [if_neg e]; exact N.p p (by omega)
theorem addTw_ok (O : OfcOk A) {l : List Nat} (hn : A.nt < 8) {v : Nat} (h1 : 1 ≤ v) (h9 : v ≤ 9) : OfcOk ((A.addT l).setW (updN (A.addT l).w A.nt v)) := weigh_ok (addT_ok O hn) h1 h9
theorem addCk_ok (O : OfcOk A) {l : List Nat} (hn : A.nc < 4) {v : Nat} (hv : v < A.wide * A.high) : OfcOk ((A.addC l).setCk (updN (A.addC l).ck A.nc v)) := walk_ok (addC_ok O hn) hv
/-- places not told yet among N -/
def unN (N s : Nat) : Nat := ct (fun i => !(s.testBit i)) N
theorem unN_lt {N s i : Nat} (hi : i < N) (h : s.testBit i = false) : unN N (s ||| 2 ^ i) < unN N s := by
  refine sm_lt (k := i) (fun j _ => ?_) hi ?_
  · show (if (!((s ||| 2 ^ i).testBit j)) = true then 1 else 0) ≤ (if (!(s.testBit j)) = true then 1 else 0)
    by_cases hj : s.testBit j = true
    · rw [Nat.testBit_or, hj]; exact Nat.zero_le _
    · rw [Bool.not_eq_true] at hj
      rw [hj]
      show _ ≤ 1
      split <;> omega
  · show (if (!((s ||| 2 ^ i).testBit i)) = true then 1 else 0) < (if (!(s.testBit i)) = true then 1 else 0)
    rw [Nat.testBit_or, h, Nat.testBit_two_pow_self]
    decide
theorem setTr_nm (N : NmOk A) (f : Nat → Nat) : NmOk (A.setTr f) := NmOk.mk (fun t ht => N.t t ht) (fun p hp => N.p p hp) (fun c hc => N.c c hc)
theorem setTr_ok (O : OfcOk A) {p t : Nat} (hp : p < A.np) (ht : t < A.nt) : OfcOk (A.setTr (updN A.tr p (A.tr p ||| 2 ^ t))) := by
  refine OfcOk.mk O.w1 O.w5 O.h1 O.h4 O.n1 O.n99 O.o16 O.t8 O.p8 O.c4 O.wt (fun q hq => ?_) O.pln O.plc O.pli O.ckc
  show updN A.tr p (A.tr p ||| 2 ^ t) q < 2 ^ A.nt
  unfold updN
  split
  · exact Nat.or_lt_two_pow (O.trt p hp) (Nat.pow_lt_pow_right (by decide) ht)
  · exact O.trt q hq
theorem qMarks_okP {p : Nat} : ∀ (m s : Nat) (A : Ofc) (T : Tk), Gd B n A T → p < A.np → s ≤ T.2.1 → GdP B n s (qMarks B n p m A T) := by
  intro m
  induction m with
  | zero => intro s A T G hp hs; exact ⟨G, hs⟩
  | succ m ih =>
    intro s A T G hp hsT
    have c := cs_le T
    have G0 := G
    obtain ⟨O, N, H⟩ := G
    unfold qMarks
    by_cases hs : isS B T 59 = true
    · rw [if_pos hs]; exact ⟨G0, hsT⟩
    · rw [if_neg hs]
      by_cases hn : isNm B T = true
      · rw [if_pos hn]
        cases ht : A.tOf (tw B T) with
        | none => exact gd_e (by decide) (by decide)
        | some t =>
          dsimp only
          by_cases hb : (A.tr p).testBit t = true
          · rw [if_pos hb]; exact gd_e (by decide) (by decide)
          · rw [if_neg hb]
            have tn := (ff_is ht).1
            have l := nx_le H
            have l2 := H.se
            exact ih s _ (nx B n T) ⟨setTr_ok O hp tn, setTr_nm N _, nx_ok H⟩ hp (by omega)
      · rw [if_neg hn]; exact ⟨c.1, by show cs T ≤ 6; omega⟩
theorem kW_ok {w s : Nat} {f : Tk → Er ⊕ (Ofc × Tk)} (H : TkOk B n T) (hs : s ≤ T.2.1) (h : TkOk B n (nx B n T) → s ≤ (nx B n T).2.1 → GdP B n s (f (nx B n T))) : GdP B n s (kW B n w T f) := by
  have c := cs_le T
  have l := nx_le H
  have l2 := H.se
  unfold kW
  by_cases hw : isW B T w = true
  · rw [if_pos hw]; exact h (nx_ok H) (by omega)
  · rw [if_neg hw]; exact ⟨c.1, by show cs T ≤ 6; omega⟩
theorem kN_ok {lo hi s : Nat} {f : Nat → Tk → Er ⊕ (Ofc × Tk)} (H : TkOk B n T) (hs : s ≤ T.2.1) (h : lo ≤ tv B T → tv B T ≤ hi → TkOk B n (nx B n T) → s ≤ (nx B n T).2.1 → GdP B n s (f (tv B T) (nx B n T))) : GdP B n s (kN B n lo hi T f) := by
  have c := cs_le T
  have l := nx_le H
  have l2 := H.se
  unfold kN
  by_cases h3 : T.1 = 3
  · rw [if_pos h3]
    by_cases hr : inN B T lo hi = true
    · rw [if_pos hr]
      obtain ⟨r1, r2⟩ := inN_is hr
      exact h r1 r2 (nx_ok H) (by omega)
    · rw [if_neg hr]; exact gd_e (by decide) (by decide)
  · rw [if_neg h3]; exact ⟨c.1, by show cs T ≤ 6; omega⟩
theorem kA_ok {s : Nat} {f : List Nat → Tk → Er ⊕ (Ofc × Tk)} (H : TkOk B n T) (hs : s ≤ T.2.1) (h : Nm (tw B T) → TkOk B n (nx B n T) → s ≤ (nx B n T).2.1 → GdP B n s (f (tw B T) (nx B n T))) : GdP B n s (kA B n A T f) := by
  have c := cs_le T
  have l := nx_le H
  have l2 := H.se
  unfold kA
  by_cases hn : isNm B T = true
  · rw [if_pos hn]
    by_cases ht : A.tkn (tw B T) = true
    · rw [if_pos ht]; exact gd_e (by decide) (by decide)
    · rw [if_neg ht]; exact h (tw_Nm H hn) (nx_ok H) (by omega)
  · rw [if_neg hn]; exact ⟨c.1, by show cs T ≤ 6; omega⟩
theorem qMark_ok (G : Gd B n A T) : GdP B n (nx B n T).2.1 (qMark B n A T) := by
  obtain ⟨O, N, H⟩ := G
  have t8 := O.t8
  unfold qMark
  by_cases h8 : A.nt = 8
  · rw [if_pos h8]; exact gd_e (by decide) (by decide)
  · rw [if_neg h8]
    exact kA_ok (nx_ok H) (Nat.le_refl _) (fun nm H1 l1 => kW_ok H1 l1 (fun H2 l2 => kN_ok H2 l2 (fun r1 r2 H3 l3 => ⟨⟨addTw_ok O (by omega) r1 r2, addT_nm N nm _, H3⟩, l3⟩)))
theorem qPaper_ok (G : Gd B n A T) : GdP B n (nx B n T).2.1 (qPaper B n A T) := by
  obtain ⟨O, N, H⟩ := G
  have p8 := O.p8
  unfold qPaper
  by_cases h8 : A.np = 8
  · rw [if_pos h8]; exact gd_e (by decide) (by decide)
  · rw [if_neg h8]
    refine kA_ok (nx_ok H) (Nat.le_refl _) (fun nm H1 l1 => ?_)
    exact qMarks_okP 9 _ _ _ ⟨addP_ok O (nm := tw B (nx B n T)) (show A.np < 8 by omega) (Nat.two_pow_pos A.nt), addP_nm N (.inr nm) 0, H1⟩ (show A.np < A.np + 1 by omega) l1
theorem qClerk_ok (G : Gd B n A T) : GdP B n (nx B n T).2.1 (qClerk B n A T) := by
  obtain ⟨O, N, H⟩ := G
  have c4 := O.c4
  have c1 : 1 ≤ A.wide * A.high := Nat.mul_le_mul O.w1 O.h1
  unfold qClerk
  by_cases h8 : A.nc = 4
  · rw [if_pos h8]; exact gd_e (by decide) (by decide)
  · rw [if_neg h8]
    exact kA_ok (nx_ok H) (Nat.le_refl _) (fun nm H1 l1 => kW_ok H1 l1 (fun H2 l2 => kN_ok H2 l2 (fun r1 r2 H3 l3 => ⟨⟨addCk_ok O (by omega) (by omega), addC_nm N nm _, H3⟩, l3⟩)))
theorem flr_ok (O : OfcOk A) {w h : Nat} (w1 : 1 ≤ w) (w5 : w ≤ 5) (h1 : 1 ≤ h) (h4 : h ≤ 4) (hc : A.nc = 0) (hl : A.lying = 0) : OfcOk (A.flr w h) := by
  have pl : ∀ p, A.pl p = none := fun p => by
    by_cases hp : p < A.np
    · have := lying_lie O p
      rw [hl, Nat.zero_testBit] at this
      unfold Ofc.lie at this
      cases e : A.pl p with
      | none => rfl
      | some c => rw [e] at this; cases this
    · exact O.pln p (by omega)
  refine OfcOk.mk w1 w5 h1 h4 O.n1 O.n99 O.o16 O.t8 O.p8 O.c4 O.wt O.trt O.pln (fun p c h => ?_) O.pli (fun k hk => ?_)
  · have h : A.pl p = some c := h
    rw [pl p] at h; cases h
  · have hk : k < A.nc := hk
    omega
theorem qFloor_ok (G : Gd B n A T) (hc : A.nc = 0) (hl : A.lying = 0) : GdP B n (nx B n T).2.1 (qFloor B n A T) := by
  obtain ⟨O, N, H⟩ := G
  unfold qFloor
  exact kN_ok (nx_ok H) (Nat.le_refl _) (fun r1 r2 H1 l1 => kW_ok H1 l1 (fun H2 l2 => kN_ok H2 l2 (fun r3 r4 H3 l3 => ⟨⟨flr_ok O r1 r2 r3 r4 hc hl, NmOk.mk N.t N.p N.c, H3⟩, l3⟩)))
theorem qNear_ok (G : Gd B n A T) : GdP B n (nx B n T).2.1 (qNear B n A T) := by
  obtain ⟨O, N, H⟩ := G
  unfold qNear
  exact kN_ok (nx_ok H) (Nat.le_refl _) (fun r1 r2 H1 l1 => ⟨⟨OfcOk.mk O.w1 O.w5 O.h1 O.h4 r1 r2 O.o16 O.t8 O.p8 O.c4 O.wt O.trt O.pln O.plc O.pli O.ckc, NmOk.mk N.t N.p N.c, H1⟩, l1⟩)
theorem qOdds_ok (G : Gd B n A T) : GdP B n (nx B n T).2.1 (qOdds B n A T) := by
  obtain ⟨O, N, H⟩ := G
  unfold qOdds
  exact kN_ok (nx_ok H) (Nat.le_refl _) (fun r1 r2 H1 l1 => ⟨⟨OfcOk.mk O.w1 O.w5 O.h1 O.h4 O.n1 O.n99 r2 O.t8 O.p8 O.c4 O.wt O.trt O.pln O.plc O.pli O.ckc, NmOk.mk N.t N.p N.c, H1⟩, l1⟩)
theorem qLies_ok (G : Gd B n A T) : GdP B n (nx B n T).2.1 (qLies B n A T) := by
  obtain ⟨O, N, H⟩ := G
  have c1 : 1 ≤ A.wide * A.high := Nat.mul_le_mul O.w1 O.h1
  have H1 := nx_ok H
  have c := cs_le (nx B n T)
  have l1 := nx_le H1
  have l2 := H1.se
  unfold qLies
  by_cases hn : isNm B (nx B n T) = true
  · rw [if_pos hn]
    cases hp : A.pOf (tw B (nx B n T)) with
    | none => exact gd_e (by decide) (by decide)
    | some p =>
      dsimp only
      by_cases hl : (A.pl p).isSome = true
      · rw [if_pos hl]; exact gd_e (by decide) (by decide)
      · rw [if_neg hl]
        refine kW_ok (nx_ok H1) (by omega) (fun H2 l3 => ?_)
        generalize hT : nx B n (nx B n (nx B n T)) = U at H2 l3
        have cU := cs_le U
        by_cases h3 : U.1 = 3
        · rw [if_pos h3]
          by_cases hr : inN B U 0 (A.wide * A.high - 1) = true
          · rw [if_pos hr]
            obtain ⟨r1, r2⟩ := inN_is hr
            by_cases hw : (A.who (tv B U)).isSome = true
            · rw [if_pos hw]; exact gd_e (by decide) (by decide)
            · rw [if_neg hw]
              have pn := (ff_is hp).1
              have l4 := nx_le H2
              have l5 := H2.se
              have hw' : A.who (tv B U) = none := by cases e : A.who (tv B U) with
                | none => rfl
                | some q => rw [e] at hw; exact absurd rfl hw
              exact ⟨⟨put_ok O pn (by omega) hw', NmOk.mk N.t N.p N.c, nx_ok H2⟩, by show _ ≤ (nx B n U).2.1; omega⟩
          · rw [if_neg hr]; exact gd_e (by decide) (by decide)
        · rw [if_neg h3]; exact ⟨cU.1, by show cs U ≤ 6; omega⟩
  · rw [if_neg hn]; exact ⟨c.1, by show cs (nx B n T) ≤ 6; omega⟩
def GdQ (B : Nat → Nat) (n s : Nat) (x : Er ⊕ ((Ofc × Fl) × Tk)) : Prop := match x with
  | .inl e => 1 ≤ e.1 ∧ e.1 ≤ 6
  | .inr y => Gd B n y.1.1 y.2 ∧ s < y.2.2.1
theorem toE_ok {s : Nat} {x : Er ⊕ (Ofc × Tk)} {F : Fl} (h : GdP B n s x) (hs : T.2.1 ≤ s) : GdQ B n T.2.1 (toE B n x F) := by
  cases x with
  | inl e => exact h
  | inr y =>
    obtain ⟨A, U⟩ := y
    obtain ⟨⟨O, N, H⟩, l⟩ := h
    have l : s ≤ U.2.1 := l
    have H : TkOk B n U := H
    have c := cs_le U
    show GdQ B n T.2.1 (kE B n U fun T => .inr ((A, F), T))
    unfold kE
    by_cases hs : isS B U 59 = true
    · rw [if_pos hs]
      have h4 : U.1 ≠ 0 := fun h0 => by
        unfold isS at hs
        rw [h0] at hs
        cases hs
      have := nx_lt H h4
      exact ⟨⟨O, N, nx_ok H⟩, by show T.2.1 < (nx B n U).2.1; omega⟩
    · rw [if_neg hs]; exact ⟨c.1, by show cs U ≤ 6; omega⟩
theorem qPart_ok {F : Fl} (G : Gd B n A T) : GdQ B n T.2.1 (qPart B n A F T) := by
  have H := G.2.2
  have c := cs_le T
  have l1 := nx_le H
  have l2 := H.se
  have l : T.2.1 ≤ (nx B n T).2.1 := by omega
  have hc : GdQ B n T.2.1 (.inl (cs T, T.2.1)) := ⟨c.1, by show cs T ≤ 6; omega⟩
  have h5 : GdQ B n T.2.1 (.inl (5, T.2.1)) := gd_e (by decide) (by decide)
  unfold qPart
  by_cases h2 : T.1 = 2
  · rw [if_pos h2]
    split
    · split
      · exact h5
      · rename_i h
        have h1 : A.nc = 0 := by omega
        have h2 : A.lying = 0 := by
          by_cases e : A.lying = 0
          · exact e
          · exact absurd (.inr (.inr e)) h
        exact toE_ok (qFloor_ok G h1 h2) l
    · split
      · exact h5
      · exact toE_ok (qNear_ok G) l
    · split
      · exact h5
      · exact toE_ok (qOdds_ok G) l
    · exact toE_ok (qMark_ok G) l
    · exact toE_ok (qPaper_ok G) l
    · exact toE_ok (qClerk_ok G) l
    · exact toE_ok (qLies_ok G) l
    · exact hc
  · rw [if_neg h2]; exact hc
end SPE
