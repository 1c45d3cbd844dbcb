/-! THE MODEL READS A REGISTRY: its new slot -/
def RRm (σ : MS) (B : Nat → Nat) (n : Nat) (T : Tk) (A : Ofc) : Prop := (RMk σ) ∧ (RTn σ B n T) ∧ (sI σ 121 1616 = nI A.nt) ∧ (sI σ 121 1617 = nI A.np) ∧ (sI σ 121 1618 = nI A.nc) ∧ (sI σ 121 1619 = nI A.wide) ∧ (sI σ 121 1620 = nI A.high) ∧ (sI σ 121 1621 = nI A.near) ∧ (sI σ 121 1622 = nI A.odds) ∧ (sI σ 121 1623 = -nI 1) ∧ (∀ t, t < A.nt → sI σ 121 (1624 + t) = nI (A.w t)) ∧ (∀ p, p < A.np → sI σ 121 (1632 + 2 * p) = nI (A.tr p)) ∧ (∀ p, p < 8 → sI σ 121 (1632 + 2 * p + 1) = oI (A.pl p)) ∧ (∀ c, c < A.nc → sI σ 121 (1648 + c) = nI (A.ck c)) ∧ (∀ t, t < A.nt → sL σ 122 (80 + t) = lN (nm256 (A.tn t))) ∧ (∀ p, p < A.np → sL σ 122 (88 + p) = lN (nm256 (A.pn p))) ∧ (∀ c, c < A.nc → sL σ 122 (96 + c) = lN (nm256 (A.cn c))) ∧ (sI σ 120 18 = nI 0) ∧ (sI σ 120 17 = -nI 1)
theorem RRm.m {σ : MS} {B : Nat → Nat} {n : Nat} {T : Tk} {A : Ofc} (H : RRm σ B n T A) : RMk σ := H.1
theorem RRm.x {σ : MS} {B : Nat → Nat} {n : Nat} {T : Tk} {A : Ofc} (H : RRm σ B n T A) : RTn σ B n T := H.2.1
theorem RRm.n0 {σ : MS} {B : Nat → Nat} {n : Nat} {T : Tk} {A : Ofc} (H : RRm σ B n T A) : sI σ 121 1616 = nI A.nt := H.2.2.1
theorem RRm.n1 {σ : MS} {B : Nat → Nat} {n : Nat} {T : Tk} {A : Ofc} (H : RRm σ B n T A) : sI σ 121 1617 = nI A.np := H.2.2.2.1
theorem RRm.n2 {σ : MS} {B : Nat → Nat} {n : Nat} {T : Tk} {A : Ofc} (H : RRm σ B n T A) : sI σ 121 1618 = nI A.nc := H.2.2.2.2.1
theorem RRm.n3 {σ : MS} {B : Nat → Nat} {n : Nat} {T : Tk} {A : Ofc} (H : RRm σ B n T A) : sI σ 121 1619 = nI A.wide := H.2.2.2.2.2.1
theorem RRm.n4 {σ : MS} {B : Nat → Nat} {n : Nat} {T : Tk} {A : Ofc} (H : RRm σ B n T A) : sI σ 121 1620 = nI A.high := H.2.2.2.2.2.2.1
theorem RRm.n5 {σ : MS} {B : Nat → Nat} {n : Nat} {T : Tk} {A : Ofc} (H : RRm σ B n T A) : sI σ 121 1621 = nI A.near := H.2.2.2.2.2.2.2.1
theorem RRm.n6 {σ : MS} {B : Nat → Nat} {n : Nat} {T : Tk} {A : Ofc} (H : RRm σ B n T A) : sI σ 121 1622 = nI A.odds := H.2.2.2.2.2.2.2.2.1
theorem RRm.n7 {σ : MS} {B : Nat → Nat} {n : Nat} {T : Tk} {A : Ofc} (H : RRm σ B n T A) : sI σ 121 1623 = -nI 1 := H.2.2.2.2.2.2.2.2.2.1
theorem RRm.a8 {σ : MS} {B : Nat → Nat} {n : Nat} {T : Tk} {A : Ofc} (H : RRm σ B n T A) : ∀ t, t < A.nt → sI σ 121 (1624 + t) = nI (A.w t) := H.2.2.2.2.2.2.2.2.2.2.1
theorem RRm.a16 {σ : MS} {B : Nat → Nat} {n : Nat} {T : Tk} {A : Ofc} (H : RRm σ B n T A) : ∀ p, p < A.np → sI σ 121 (1632 + 2 * p) = nI (A.tr p) := H.2.2.2.2.2.2.2.2.2.2.2.1
theorem RRm.a17 {σ : MS} {B : Nat → Nat} {n : Nat} {T : Tk} {A : Ofc} (H : RRm σ B n T A) : ∀ p, p < 8 → sI σ 121 (1632 + 2 * p + 1) = oI (A.pl p) := H.2.2.2.2.2.2.2.2.2.2.2.2.1
theorem RRm.a32 {σ : MS} {B : Nat → Nat} {n : Nat} {T : Tk} {A : Ofc} (H : RRm σ B n T A) : ∀ c, c < A.nc → sI σ 121 (1648 + c) = nI (A.ck c) := H.2.2.2.2.2.2.2.2.2.2.2.2.2.1
theorem RRm.l0 {σ : MS} {B : Nat → Nat} {n : Nat} {T : Tk} {A : Ofc} (H : RRm σ B n T A) : ∀ t, t < A.nt → sL σ 122 (80 + t) = lN (nm256 (A.tn t)) := H.2.2.2.2.2.2.2.2.2.2.2.2.2.2.1
theorem RRm.l8 {σ : MS} {B : Nat → Nat} {n : Nat} {T : Tk} {A : Ofc} (H : RRm σ B n T A) : ∀ p, p < A.np → sL σ 122 (88 + p) = lN (nm256 (A.pn p)) := H.2.2.2.2.2.2.2.2.2.2.2.2.2.2.2.1
theorem RRm.l16 {σ : MS} {B : Nat → Nat} {n : Nat} {T : Tk} {A : Ofc} (H : RRm σ B n T A) : ∀ c, c < A.nc → sL σ 122 (96 + c) = lN (nm256 (A.cn c)) := H.2.2.2.2.2.2.2.2.2.2.2.2.2.2.2.2.1
theorem RRm.z {σ : MS} {B : Nat → Nat} {n : Nat} {T : Tk} {A : Ofc} (H : RRm σ B n T A) : sI σ 120 18 = nI 0 := H.2.2.2.2.2.2.2.2.2.2.2.2.2.2.2.2.2.1
theorem RRm.z7 {σ : MS} {B : Nat → Nat} {n : Nat} {T : Tk} {A : Ofc} (H : RRm σ B n T A) : sI σ 120 17 = -nI 1 := H.2.2.2.2.2.2.2.2.2.2.2.2.2.2.2.2.2.2
theorem RRm.mk {σ : MS} {B : Nat → Nat} {n : Nat} {T : Tk} {A : Ofc} (m : RMk σ) (x : RTn σ B n T) (n0 : sI σ 121 1616 = nI A.nt) (n1 : sI σ 121 1617 = nI A.np) (n2 : sI σ 121 1618 = nI A.nc) (n3 : sI σ 121 1619 = nI A.wide) (n4 : sI σ 121 1620 = nI A.high) (n5 : sI σ 121 1621 = nI A.near) (n6 : sI σ 121 1622 = nI A.odds) (n7 : sI σ 121 1623 = -nI 1) (a8 : ∀ t, t < A.nt → sI σ 121 (1624 + t) = nI (A.w t)) (a16 : ∀ p, p < A.np → sI σ 121 (1632 + 2 * p) = nI (A.tr p)) (a17 : ∀ p, p < 8 → sI σ 121 (1632 + 2 * p + 1) = oI (A.pl p)) (a32 : ∀ c, c < A.nc → sI σ 121 (1648 + c) = nI (A.ck c)) (l0 : ∀ t, t < A.nt → sL σ 122 (80 + t) = lN (nm256 (A.tn t))) (l8 : ∀ p, p < A.np → sL σ 122 (88 + p) = lN (nm256 (A.pn p))) (l16 : ∀ c, c < A.nc → sL σ 122 (96 + c) = lN (nm256 (A.cn c))) (z : sI σ 120 18 = nI 0) (z7 : sI σ 120 17 = -nI 1) : RRm σ B n T A := ⟨m, x, n0, n1, n2, n3, n4, n5, n6, n7, a8, a16, a17, a32, l0, l8, l16, z, z7⟩
def FM (σ τ : MS) : Prop := Ag (fun b => b = 120 ∨ b = 121 ∨ b = 122) σ τ ∧ (∀ j, j < 1616 → sI τ 121 j = sI σ 121 j) ∧ (∀ j, j < 80 → sL τ 122 j = sL σ 122 j) ∧ (∀ j, (j < 12 ∨ 21 ≤ j) → sI τ 120 j = sI σ 120 j) ∧ (∀ j, sL τ 120 j = sL σ 120 j) ∧ sI τ 120 20 = sI σ 120 20
def MPost (σ : MS) (B : Nat → Nat) (n : Nat) (x : Er ⊕ (Ofc × Tk)) (τ : MS) : Prop := FM σ τ ∧ match x with
  | .inl e => sI τ 120 18 = nI e.1 ∧ sI τ 120 17 = nI e.2
  | .inr y => RRm τ B n y.2 y.1
section RDM
variable {d : Nat} {σ τ ρ : MS} {n : Nat} {A A' : Ofc} {B : Nat → Nat} {T U : Tk} {K : Option Value → MS → Prop}
theorem FM.rf : FM σ σ := ⟨Ag.rf, fun _ _ => rfl, fun _ _ => rfl, fun _ _ => rfl, fun _ => rfl, rfl⟩
theorem FM.tr (h1 : FM σ τ) (h2 : FM τ ρ) : FM σ ρ := ⟨h1.1.tr h2.1, fun j hj => (h2.2.1 j hj).trans (h1.2.1 j hj), fun j hj => (h2.2.2.1 j hj).trans (h1.2.2.1 j hj), fun j hj => (h2.2.2.2.1 j hj).trans (h1.2.2.2.1 j hj), fun j => (h2.2.2.2.2.1 j).trans (h1.2.2.2.2.1 j), h2.2.2.2.2.2.trans h1.2.2.2.2.2⟩
theorem FM.tm (h : TmF σ τ) : FM σ τ := ⟨h.1.mono (fun b hb => .inl hb), fun j _ => h.1.I (by omega) j, fun j _ => h.1.L (by omega) j, fun j hj => h.2.1 j (by omega), h.2.2, h.2.1 20 (by omega)⟩
theorem FM.sI {i : Nat} {v : Int32} (h : 1616 ≤ i) : FM σ (setI σ 121 i v) := ⟨Ag.rf.setI (.inr (.inl rfl)), fun j hj => by rw [sI_setI, if_neg (by omega)], fun j _ => rfl, fun j _ => by rw [sI_setI, if_neg (by omega)], fun j => rfl, by rw [sI_setI, if_neg (by omega)]⟩
theorem FM.sL {i : Nat} {v : Int64} (h : 80 ≤ i) : FM σ (setL σ 122 i v) := ⟨Ag.rf.setL (.inr (.inr rfl)), fun j hj => rfl, fun j _ => by rw [sL_setL, if_neg (by omega)], fun j _ => rfl, fun j => by rw [sL_setL, if_neg (by omega)], rfl⟩
theorem FM.flt (h : FM σ τ) (c s : Nat) : FM σ (fltM τ c s) := h.tr ⟨(fltM_ag c s).mono (fun b hb => .inl hb), fun j _ => (fltM_ag c s).I (by omega) j, fun j _ => (fltM_ag c s).L (by omega) j, fun j hj => fltM_I c s (by omega), fun j => by unfold fltM; rfl, fltM_I c s (by omega)⟩
theorem MP.no {e : Er} (h : FM σ τ) : MPost σ B n (.inl e) (fltM τ e.1 e.2) := ⟨h.flt _ _, fltM_18 _ _, fltM_17 _ _⟩
theorem MP.yes {A : Ofc} {T : Tk} (h : FM σ τ) (X : RRm τ B n T A) : MPost σ B n (.inr (A, T)) τ := ⟨h, X⟩
theorem MP.tr {x : Er ⊕ (Ofc × Tk)} (h : FM σ τ) (X : MPost τ B n x ρ) : MPost σ B n x ρ := ⟨h.tr X.1, X.2⟩
theorem RRm.tm (X : RRm σ B n T A) (f : TmF σ τ) (Y : RTn τ B n U) : RRm τ B n U A := by
  have i := fun j => f.1.I (b := 121) (by omega) j
  have l := fun j => f.1.L (b := 122) (by omega) j
  exact RRm.mk (X.m.ag f.1) Y ((i _).trans X.n0) ((i _).trans X.n1) ((i _).trans X.n2) ((i _).trans X.n3) ((i _).trans X.n4) ((i _).trans X.n5) ((i _).trans X.n6) ((i _).trans X.n7) (fun t h => (i _).trans (X.a8 t h)) (fun t h => (i _).trans (X.a16 t h)) (fun t h => (i _).trans (X.a17 t h)) (fun t h => (i _).trans (X.a32 t h)) (fun t h => (l _).trans (X.l0 t h)) (fun t h => (l _).trans (X.l8 t h)) (fun t h => (l _).trans (X.l16 t h)) ((f.2.1 _ (by omega)).trans X.z) ((f.2.1 _ (by omega)).trans X.z7)
theorem RTn.sI (X : RTn σ B n T) {i : Nat} {v : Int32} : RTn (setI σ 121 i v) B n T := X.keep (fun j => by rw [sI_setI, if_neg (by omega)]) (fun j => by rw [sI_setI, if_neg (by omega)])
theorem RTn.sL (X : RTn σ B n T) {i : Nat} {v : Int64} : RTn (setL σ 122 i v) B n T := X.keep (fun j => rfl) (fun j => rfl)
theorem RRm.free (X : RRm σ B n T A) (O : OfcOk A) {i : Nat} {v : Int32} (h0 : 1624 ≤ i) (h1 : ∀ t, t < A.nt → 1624 + t ≠ i) (h2 : ∀ p, p < A.np → 1632 + 2 * p ≠ i) (h3 : ∀ p, p < 8 → 1632 + 2 * p + 1 ≠ i) (h4 : ∀ c, c < A.nc → 1648 + c ≠ i) : RRm (setI σ 121 i v) B n T A := by
  have y : ∀ j, j ≠ i → sI (setI σ 121 i v) 121 j = sI σ 121 j := fun j hj => by rw [sI_setI, if_neg (fun h => hj h.2)]
  have t8 := O.t8
  have p8 := O.p8
  have c4 := O.c4
  refine RRm.mk (X.m.ag (Ag.rf.setI (p := fun b => b = 121) rfl)) X.x.sI ((y _ (by omega)).trans X.n0) ((y _ (by omega)).trans X.n1) ((y _ (by omega)).trans X.n2) ((y _ (by omega)).trans X.n3) ((y _ (by omega)).trans X.n4) ((y _ (by omega)).trans X.n5) ((y _ (by omega)).trans X.n6) ((y _ (by omega)).trans X.n7) ?_ ?_ ?_ ?_ X.l0 X.l8 X.l16 ((by rw [sI_setI, if_neg (by omega)]; exact X.z)) ((by rw [sI_setI, if_neg (by omega)]; exact X.z7))
  · exact fun t h => (y _ (h1 t h)).trans (X.a8 t h)
  · exact fun t h => (y _ (h2 t h)).trans (X.a16 t h)
  · exact fun t h => (y _ (h3 t h)).trans (X.a17 t h)
  · exact fun t h => (y _ (h4 t h)).trans (X.a32 t h)
theorem RRm.setW0 (X : RRm σ B n T A) (O : OfcOk A) (v : Nat) : RRm (setI σ 121 1619 (nI v)) B n T (A.setN 0 v) := by
  have y : ∀ j, j ≠ 1619 → sI (setI σ 121 1619 (nI v)) 121 j = sI σ 121 j := fun j hj => by rw [sI_setI, if_neg (fun h => hj h.2)]
  have t8 := O.t8
  have p8 := O.p8
  have c4 := O.c4
  refine RRm.mk (X.m.ag (Ag.rf.setI (p := fun b => b = 121) rfl)) X.x.sI ((y _ (by omega)).trans X.n0) ((y _ (by omega)).trans X.n1) ((y _ (by omega)).trans X.n2) ?_ ((y _ (by omega)).trans X.n4) ((y _ (by omega)).trans X.n5) ((y _ (by omega)).trans X.n6) ((y _ (by omega)).trans X.n7) (fun t h => (y _ (by omega)).trans (X.a8 t h)) (fun t h => (y _ (by omega)).trans (X.a16 t h)) (fun t h => (y _ (by omega)).trans (X.a17 t h)) (fun t h => (y _ (by omega)).trans (X.a32 t h)) X.l0 X.l8 X.l16 ((by rw [sI_setI, if_neg (by omega)]; exact X.z)) ((by rw [sI_setI, if_neg (by omega)]; exact X.z7))
  · rw [sI_setI, if_pos ⟨rfl, rfl⟩]; rfl
theorem RRm.setH0 {w : Nat} (X : RRm σ B n T (A.setN 0 w)) (O : OfcOk A) (v : Nat) : RRm (setI σ 121 1620 (nI v)) B n T ((A.setN 0 w).setN 1 v) := by
  have y : ∀ j, j ≠ 1620 → sI (setI σ 121 1620 (nI v)) 121 j = sI σ 121 j := fun j hj => by rw [sI_setI, if_neg (fun h => hj h.2)]
  have t8 := O.t8
  have p8 := O.p8
  have c4 := O.c4
  refine RRm.mk (X.m.ag (Ag.rf.setI (p := fun b => b = 121) rfl)) X.x.sI ((y _ (by omega)).trans X.n0) ((y _ (by omega)).trans X.n1) ((y _ (by omega)).trans X.n2) ((y _ (by omega)).trans X.n3) ?_ ((y _ (by omega)).trans X.n5) ((y _ (by omega)).trans X.n6) ((y _ (by omega)).trans X.n7) (fun t h => (y _ (by omega)).trans (X.a8 t h)) (fun t h => (y _ (by omega)).trans (X.a16 t h)) (fun t h => (y _ (by omega)).trans (X.a17 t h)) (fun t h => (y _ (by omega)).trans (X.a32 t h)) X.l0 X.l8 X.l16 ((by rw [sI_setI, if_neg (by omega)]; exact X.z)) ((by rw [sI_setI, if_neg (by omega)]; exact X.z7))
  · rw [sI_setI, if_pos ⟨rfl, rfl⟩]; rfl
theorem RRm.setNr (X : RRm σ B n T A) (O : OfcOk A) (v : Nat) : RRm (setI σ 121 1621 (nI v)) B n T (A.setN 3 v) := by
  have y : ∀ j, j ≠ 1621 → sI (setI σ 121 1621 (nI v)) 121 j = sI σ 121 j := fun j hj => by rw [sI_setI, if_neg (fun h => hj h.2)]
  have t8 := O.t8
  have p8 := O.p8
  have c4 := O.c4
  refine RRm.mk (X.m.ag (Ag.rf.setI (p := fun b => b = 121) rfl)) X.x.sI ((y _ (by omega)).trans X.n0) ((y _ (by omega)).trans X.n1) ((y _ (by omega)).trans X.n2) ((y _ (by omega)).trans X.n3) ((y _ (by omega)).trans X.n4) ?_ ((y _ (by omega)).trans X.n6) ((y _ (by omega)).trans X.n7) (fun t h => (y _ (by omega)).trans (X.a8 t h)) (fun t h => (y _ (by omega)).trans (X.a16 t h)) (fun t h => (y _ (by omega)).trans (X.a17 t h)) (fun t h => (y _ (by omega)).trans (X.a32 t h)) X.l0 X.l8 X.l16 ((by rw [sI_setI, if_neg (by omega)]; exact X.z)) ((by rw [sI_setI, if_neg (by omega)]; exact X.z7))
  · rw [sI_setI, if_pos ⟨rfl, rfl⟩]; rfl
theorem RRm.setOd (X : RRm σ B n T A) (O : OfcOk A) (v : Nat) : RRm (setI σ 121 1622 (nI v)) B n T (A.setN 4 v) := by
  have y : ∀ j, j ≠ 1622 → sI (setI σ 121 1622 (nI v)) 121 j = sI σ 121 j := fun j hj => by rw [sI_setI, if_neg (fun h => hj h.2)]
  have t8 := O.t8
  have p8 := O.p8
  have c4 := O.c4
  refine RRm.mk (X.m.ag (Ag.rf.setI (p := fun b => b = 121) rfl)) X.x.sI ((y _ (by omega)).trans X.n0) ((y _ (by omega)).trans X.n1) ((y _ (by omega)).trans X.n2) ((y _ (by omega)).trans X.n3) ((y _ (by omega)).trans X.n4) ((y _ (by omega)).trans X.n5) ?_ ((y _ (by omega)).trans X.n7) (fun t h => (y _ (by omega)).trans (X.a8 t h)) (fun t h => (y _ (by omega)).trans (X.a16 t h)) (fun t h => (y _ (by omega)).trans (X.a17 t h)) (fun t h => (y _ (by omega)).trans (X.a32 t h)) X.l0 X.l8 X.l16 ((by rw [sI_setI, if_neg (by omega)]; exact X.z)) ((by rw [sI_setI, if_neg (by omega)]; exact X.z7))
  · rw [sI_setI, if_pos ⟨rfl, rfl⟩]; rfl
theorem RRm.addT (X : RRm σ B n T A) (O : OfcOk A) {l : List Nat} {v : Nat} (hv : sI σ 121 (1624 + A.nt) = nI v) (hl : sL σ 122 (80 + A.nt) = lN (nm256 l)) : RRm (setI σ 121 1616 (nI (A.nt + 1))) B n T ((A.addT l).setW (updN (A.addT l).w A.nt v)) := by
  have y : ∀ j, j ≠ 1616 → sI (setI σ 121 1616 (nI (A.nt + 1))) 121 j = sI σ 121 j := fun j hj => by rw [sI_setI, if_neg (fun h => hj h.2)]
  have t8 := O.t8
  have p8 := O.p8
  have c4 := O.c4
  refine RRm.mk (X.m.ag (Ag.rf.setI (p := fun b => b = 121) rfl)) X.x.sI ?_ ((y _ (by omega)).trans X.n1) ((y _ (by omega)).trans X.n2) ((y _ (by omega)).trans X.n3) ((y _ (by omega)).trans X.n4) ((y _ (by omega)).trans X.n5) ((y _ (by omega)).trans X.n6) ((y _ (by omega)).trans X.n7) ?_ (fun t h => (y _ (by omega)).trans (X.a16 t h)) (fun t h => (y _ (by omega)).trans (X.a17 t h)) (fun t h => (y _ (by omega)).trans (X.a32 t h)) ?_ X.l8 X.l16 ((by rw [sI_setI, if_neg (by omega)]; exact X.z)) ((by rw [sI_setI, if_neg (by omega)]; exact X.z7))
  · rw [sI_setI, if_pos ⟨rfl, rfl⟩]; rfl
  · intro t h
    have h : t < A.nt + 1 := h
    rw [y _ (by omega)]
    show _ = nI (updN (updN A.w A.nt 1) A.nt v t)
    unfold updN
    by_cases e : t = A.nt
    · rw [if_pos e, e]; exact hv
    · rw [if_neg e, if_neg e]; exact X.a8 t (by omega)
  · intro t h
    have h : t < A.nt + 1 := h
    show sL σ 122 (80 + t) = lN (nm256 (updS A.tn A.nt l t))
    unfold updS
    by_cases e : t = A.nt
    · rw [if_pos e, e]; exact hl
    · rw [if_neg e]; exact X.l0 t (by omega)
theorem RRm.addC (X : RRm σ B n T A) (O : OfcOk A) {l : List Nat} {v : Nat} (hv : sI σ 121 (1648 + A.nc) = nI v) (hl : sL σ 122 (96 + A.nc) = lN (nm256 l)) : RRm (setI σ 121 1618 (nI (A.nc + 1))) B n T ((A.addC l).setCk (updN (A.addC l).ck A.nc v)) := by
  have y : ∀ j, j ≠ 1618 → sI (setI σ 121 1618 (nI (A.nc + 1))) 121 j = sI σ 121 j := fun j hj => by rw [sI_setI, if_neg (fun h => hj h.2)]
  have t8 := O.t8
  have p8 := O.p8
  have c4 := O.c4
  refine RRm.mk (X.m.ag (Ag.rf.setI (p := fun b => b = 121) rfl)) X.x.sI ((y _ (by omega)).trans X.n0) ((y _ (by omega)).trans X.n1) ?_ ((y _ (by omega)).trans X.n3) ((y _ (by omega)).trans X.n4) ((y _ (by omega)).trans X.n5) ((y _ (by omega)).trans X.n6) ((y _ (by omega)).trans X.n7) (fun t h => (y _ (by omega)).trans (X.a8 t h)) (fun t h => (y _ (by omega)).trans (X.a16 t h)) (fun t h => (y _ (by omega)).trans (X.a17 t h)) ?_ X.l0 X.l8 ?_ ((by rw [sI_setI, if_neg (by omega)]; exact X.z)) ((by rw [sI_setI, if_neg (by omega)]; exact X.z7))
  · rw [sI_setI, if_pos ⟨rfl, rfl⟩]; rfl
  · intro t h
    have h : t < A.nc + 1 := h
    rw [y _ (by omega)]
    show _ = nI (updN (updN A.ck A.nc 0) A.nc v t)
    unfold updN
    by_cases e : t = A.nc
    · rw [if_pos e, e]; exact hv
    · rw [if_neg e, if_neg e]; exact X.a32 t (by omega)
  · intro t h
    have h : t < A.nc + 1 := h
    show sL σ 122 (96 + t) = lN (nm256 (updS A.cn A.nc l t))
    unfold updS
    by_cases e : t = A.nc
    · rw [if_pos e, e]; exact hl
    · rw [if_neg e]; exact X.l16 t (by omega)
theorem RRm.addP (X : RRm σ B n T A) (O : OfcOk A) {l : List Nat} {v : Nat} (hv : sI σ 121 (1632 + 2 * A.np) = nI v) (hl : sL σ 122 (88 + A.np) = lN (nm256 l)) : RRm (setI σ 121 1617 (nI (A.np + 1))) B n T (A.addP l v) := by
  have y : ∀ j, j ≠ 1617 → sI (setI σ 121 1617 (nI (A.np + 1))) 121 j = sI σ 121 j := fun j hj => by rw [sI_setI, if_neg (fun h => hj h.2)]
  have t8 := O.t8
  have p8 := O.p8
  have c4 := O.c4
  refine RRm.mk (X.m.ag (Ag.rf.setI (p := fun b => b = 121) rfl)) X.x.sI ((y _ (by omega)).trans X.n0) ?_ ((y _ (by omega)).trans X.n2) ((y _ (by omega)).trans X.n3) ((y _ (by omega)).trans X.n4) ((y _ (by omega)).trans X.n5) ((y _ (by omega)).trans X.n6) ((y _ (by omega)).trans X.n7) (fun t h => (y _ (by omega)).trans (X.a8 t h)) ?_ (fun t h => (y _ (by omega)).trans (X.a17 t h)) (fun t h => (y _ (by omega)).trans (X.a32 t h)) X.l0 ?_ X.l16 ((by rw [sI_setI, if_neg (by omega)]; exact X.z)) ((by rw [sI_setI, if_neg (by omega)]; exact X.z7))
  · rw [sI_setI, if_pos ⟨rfl, rfl⟩]; rfl
  · intro t h
    have h : t < A.np + 1 := h
    rw [y _ (by omega)]
    show _ = nI (updN A.tr A.np v t)
    unfold updN
    by_cases e : t = A.np
    · rw [if_pos e, e]; exact hv
    · rw [if_neg e]; exact X.a16 t (by omega)
  · intro t h
    have h : t < A.np + 1 := h
    show sL σ 122 (88 + t) = lN (nm256 (updS A.pn A.np l t))
    unfold updS
    by_cases e : t = A.np
    · rw [if_pos e, e]; exact hl
    · rw [if_neg e]; exact X.l8 t (by omega)
theorem RRm.put (X : RRm σ B n T A) (O : OfcOk A) {p c : Nat} (hp : p < A.np) : RRm (setI σ 121 (1632 + 2 * p + 1) (nI c)) B n T (A.put p c) := by
  have y : ∀ j, j ≠ (1632 + 2 * p + 1) → sI (setI σ 121 (1632 + 2 * p + 1) (nI c)) 121 j = sI σ 121 j := fun j hj => by rw [sI_setI, if_neg (fun h => hj h.2)]
  have t8 := O.t8
  have p8 := O.p8
  have c4 := O.c4
  refine RRm.mk (X.m.ag (Ag.rf.setI (p := fun b => b = 121) rfl)) X.x.sI ((y _ (by omega)).trans X.n0) ((y _ (by omega)).trans X.n1) ((y _ (by omega)).trans X.n2) ((y _ (by omega)).trans X.n3) ((y _ (by omega)).trans X.n4) ((y _ (by omega)).trans X.n5) ((y _ (by omega)).trans X.n6) ((y _ (by omega)).trans X.n7) (fun t (h : t < A.nt) => (y _ (by omega)).trans (X.a8 t h)) (fun t (h : t < A.np) => (y _ (by omega)).trans (X.a16 t h)) ?_ (fun t (h : t < A.nc) => (y _ (by omega)).trans (X.a32 t h)) X.l0 X.l8 X.l16 ((by rw [sI_setI, if_neg (by omega)]; exact X.z)) ((by rw [sI_setI, if_neg (by omega)]; exact X.z7))
  · intro q hq
    rw [sI_setI]
    show _ = oI (if q = p then some c else A.pl q)
    by_cases e : q = p
    · rw [if_pos ⟨rfl, by omega⟩, if_pos e]; rfl
    · rw [if_neg (by omega), if_neg e]; exact X.a17 q hq
theorem RRm.sLf (X : RRm σ B n T A) {i : Nat} {v : Int64} (h1 : ∀ t, t < A.nt → 80 + t ≠ i) (h2 : ∀ p, p < A.np → 88 + p ≠ i) (h4 : ∀ c, c < A.nc → 96 + c ≠ i) : RRm (setL σ 122 i v) B n T A := by
  have y : ∀ j, j ≠ i → sL (setL σ 122 i v) 122 j = sL σ 122 j := fun j hj => by rw [sL_setL, if_neg (fun h => hj h.2)]
  exact RRm.mk (X.m.ag (Ag.rf.setL (p := fun b => b = 122) rfl)) X.x.sL X.n0 X.n1 X.n2 X.n3 X.n4 X.n5 X.n6 X.n7 X.a8 X.a16 X.a17 X.a32 (fun t h => (y _ (h1 t h)).trans (X.l0 t h)) (fun t h => (y _ (h2 t h)).trans (X.l8 t h)) (fun t h => (y _ (h4 t h)).trans (X.l16 t h)) X.z X.z7
theorem RRm.sl (X : RRm σ B n T A) (O : OfcOk A) : RSl σ 4 A := by
  have p8 := O.p8
  refine RSl.mk X.n0 X.n1 X.n2 X.n3 X.n4 X.n5 X.n6 (fun t h => ?_) (fun t h => ?_) (fun t h => ?_) (fun t h => ?_) (fun t h => ?_) (fun t h => ?_) (fun t h => ?_)
  · rw [show 404 * 4 + (8 + t) = 1624 + t by omega]; exact X.a8 t h
  · rw [show 404 * 4 + (16 + 2 * t) = 1632 + 2 * t by omega]; exact X.a16 t h
  · rw [show 404 * 4 + (16 + 2 * t + 1) = 1632 + 2 * t + 1 by omega]; exact X.a17 t (by omega)
  · rw [show 404 * 4 + (32 + t) = 1648 + t by omega]; exact X.a32 t h
  · rw [show 20 * 4 + t = 80 + t by omega]; exact X.l0 t h
  · rw [show 20 * 4 + (8 + t) = 88 + t by omega]; exact X.l8 t h
  · rw [show 20 * 4 + (16 + t) = 96 + t by omega]; exact X.l16 t h
end RDM
