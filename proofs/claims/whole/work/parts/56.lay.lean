/-! OTHER WAYS TO LIE: laid, taken, swapped -/
section LAY
variable {d : Nat} {σ τ ρ : MS} {a : Nat} {A : Ofc} {K : Option Value → MS → Prop}
theorem OfcOk.setPl (O : OfcOk A) (f : Nat → Option Nat) (h1 : ∀ p, A.np ≤ p → f p = none) (h2 : ∀ p c, f p = some c → c < A.wide * A.high) (h3 : ∀ p q c, f p = some c → f q = some c → p = q) : OfcOk (A.setPl f) :=
  OfcOk.mk O.w1 O.w5 O.h1 O.h4 O.n1 O.n99 O.o16 O.t8 O.p8 O.c4 O.wt O.trt h1 h2 h3 O.ckc
theorem who_is (O : OfcOk A) {c : Nat} {v : Option Nat} (h1 : ∀ p, v = some p → A.pl p = some c) (h2 : v = none → ∀ p, A.pl p ≠ some c) : A.who c = v := by
  cases v with
  | none => exact who_none O (fun p _ => h2 rfl p)
  | some p => exact (who_iff O).mpr (h1 p rfl)
/-- what the Model's calls leave as it was, but for its first slot -/
def MF (σ τ : MS) : Prop := Ag (fun b => b = 120 ∨ b = 121 ∨ (127 ≤ b ∧ b ≤ 141)) σ τ ∧ (∀ j, (j = 2 ∨ j = 10 ∨ j = 16 ∨ j = 17 ∨ j = 46 ∨ j = 47) → sI τ 120 j = sI σ 120 j) ∧ (∀ j, sL τ 120 j = sL σ 120 j) ∧ (∀ j, (j = 7 ∨ 36 ≤ j) → j < 1616 → sI τ 121 j = sI σ 121 j)
theorem MF.rf : MF σ σ := ⟨Ag.rf, fun _ _ => rfl, fun _ => rfl, fun _ _ _ => rfl⟩
theorem MF.tr (h1 : MF σ τ) (h2 : MF τ ρ) : MF σ ρ := ⟨h1.1.tr h2.1, fun j h => (h2.2.1 j h).trans (h1.2.1 j h), fun j => (h2.2.2.1 j).trans (h1.2.2.1 j), fun j h h' => (h2.2.2.2 j h h').trans (h1.2.2.2 j h h')⟩
theorem MF.at (h : MF σ τ) {j : Nat} {v : Int32} (hj : (j < 36 ∧ j ≠ 7) ∨ 1616 ≤ j) : MF σ (setI τ 121 j v) := h.tr ⟨Ag.rf.setI (.inr (.inl rfl)), fun _ _ => rfl, fun _ => rfl, fun i hi hh => by rw [sI_setI]; refine if_neg ?_; omega⟩
theorem MF.fl (h : MF σ τ) {j : Nat} {v : Int32} (hj : ¬ (j = 2 ∨ j = 10 ∨ j = 16 ∨ j = 17 ∨ j = 46 ∨ j = 47)) : MF σ (setI τ 120 j v) := h.tr ⟨Ag.rf.setI (.inl rfl), fun i hi => by rw [sI_setI]; refine if_neg ?_; intro hh; exact hj (hh.2 ▸ hi), fun _ => rfl, fun _ _ _ => rfl⟩
theorem MF.wk (h : MF σ τ) {b : Nat} {g : Nat → Int32} (hb : 127 ≤ b ∧ b ≤ 141) : MF σ (upA τ b g) := h.tr ⟨Ag.rf.upA (.inr (.inr hb)), fun j _ => by rw [sI_upA]; refine if_neg ?_; omega, fun _ => rfl, fun j _ _ => by rw [sI_upA]; refine if_neg ?_; omega⟩
theorem MF.wI (h : MF σ τ) {b j : Nat} {v : Int32} (hb : 127 ≤ b ∧ b ≤ 141) : MF σ (setI τ b j v) := by rw [setI_eq_upA]; exact h.wk hb
theorem MF.sr (h : MF σ τ) (c s : Nat) : MF σ (mSr τ c s) := by
  rw [← mSr_0]
  exact (h.fl (by decide)).fl (by decide)
theorem MF.rm (h : MF σ τ) (M : RMod σ A) (h1 : ∀ j, j < 36 → sI τ 121 j = sI σ 121 j) (O : OfcOk A) : RMod τ A := by
  have t8 := O.t8
  have p8 := O.p8
  have c4 := O.c4
  have x : ∀ j, sL τ 122 j = sL σ 122 j := h.1.L (by omega)
  refine RMod.mk (M.m.ag h.1) ?_ ?_ ?_ ?_ ?_ ?_ ?_ ?_ ?_ ?_ ?_ ?_ ?_ ?_
  · exact (h1 _ (by omega)).trans M.a0
  · exact (h1 _ (by omega)).trans M.a1
  · exact (h1 _ (by omega)).trans M.a2
  · exact (h1 _ (by omega)).trans M.a3
  · exact (h1 _ (by omega)).trans M.a4
  · exact (h1 _ (by omega)).trans M.a5
  · exact (h1 _ (by omega)).trans M.a6
  · exact fun t h => (h1 _ (by omega)).trans (M.a8 t h)
  · exact fun t h => (h1 _ (by omega)).trans (M.a16 t h)
  · exact fun t h => (h1 _ (by omega)).trans (M.a17 t h)
  · exact fun t h => (h1 _ (by omega)).trans (M.a32 t h)
  · exact fun t h => (x _).trans (M.n0 t h)
  · exact fun t h => (x _).trans (M.n8 t h)
  · exact fun t h => (x _).trans (M.n16 t h)
theorem RMod.setPl (M : RMod σ A) (O : OfcOk A) (f : Nat → Option Nat) (hA : MF σ τ) (hj : ∀ j, j < 36 → (∀ p, p < A.np → j ≠ 16 + 2 * p + 1) → sI τ 121 j = sI σ 121 j) (hp : ∀ p, p < A.np → sI τ 121 (16 + 2 * p + 1) = oI (f p)) : RMod τ (A.setPl f) := by
  have t8 := O.t8
  have p8 := O.p8
  have c4 := O.c4
  have x : ∀ j, sL τ 122 j = sL σ 122 j := hA.1.L (by omega)
  refine RMod.mk (M.m.ag hA.1) ?_ ?_ ?_ ?_ ?_ ?_ ?_ ?_ ?_ hp ?_ ?_ ?_ ?_
  · exact (hj _ (by omega) (fun p _ => by omega)).trans M.a0
  · exact (hj _ (by omega) (fun p _ => by omega)).trans M.a1
  · exact (hj _ (by omega) (fun p _ => by omega)).trans M.a2
  · exact (hj _ (by omega) (fun p _ => by omega)).trans M.a3
  · exact (hj _ (by omega) (fun p _ => by omega)).trans M.a4
  · exact (hj _ (by omega) (fun p _ => by omega)).trans M.a5
  · exact (hj _ (by omega) (fun p _ => by omega)).trans M.a6
  · exact fun t (h : t < A.nt) => (hj _ (by omega) (fun p _ => by omega)).trans (M.a8 t h)
  · exact fun t (h : t < A.np) => (hj _ (by omega) (fun p _ => by omega)).trans (M.a16 t h)
  · exact fun t (h : t < A.nc) => (hj _ (by omega) (fun p _ => by omega)).trans (M.a32 t h)
  · exact fun t h => (x _).trans (M.n0 t h)
  · exact fun t h => (x _).trans (M.n8 t h)
  · exact fun t h => (x _).trans (M.n16 t h)
def Ofc.put (A : Ofc) (p c : Nat) : Ofc := A.setPl (fun q => if q = p then some c else A.pl q)
def Ofc.tak (A : Ofc) (p : Nat) : Ofc := A.setPl (fun q => if q = p then none else A.pl q)
def Ofc.swa (A : Ofc) (c e : Nat) : Ofc := A.setPl (fun q => if A.pl q = some c then some e else if A.pl q = some e then some c else A.pl q)
theorem put_ok (O : OfcOk A) {p c : Nat} (hp : p < A.np) (hc : c < A.wide * A.high) (hw : A.who c = none) : OfcOk (A.put p c) := by
  have hn : ∀ q, A.pl q ≠ some c := fun q hq => by rw [(who_iff O).mpr hq] at hw; cases hw
  refine O.setPl _ (fun q hq => ?_) (fun q e he => ?_) (fun q r e h1 h2 => ?_)
  · rw [if_neg (by omega)]; exact O.pln q hq
  · split at he
    · cases he; exact hc
    · exact O.plc q e he
  · split at h1
    · cases h1
      split at h2
      · omega
      · exact absurd h2 (hn r)
    · split at h2
      · cases h2; exact absurd h1 (hn q)
      · exact O.pli q r e h1 h2
theorem tak_ok (O : OfcOk A) (p : Nat) : OfcOk (A.tak p) := by
  refine O.setPl _ (fun q hq => ?_) (fun q e he => ?_) (fun q r e h1 h2 => ?_)
  · split
    · rfl
    · exact O.pln q hq
  · split at he
    · cases he
    · exact O.plc q e he
  · split at h1
    · cases h1
    · split at h2
      · cases h2
      · exact O.pli q r e h1 h2
theorem swa_ok (O : OfcOk A) {c e : Nat} (hc : c < A.wide * A.high) (he : e < A.wide * A.high) : OfcOk (A.swa c e) := by
  refine O.setPl _ (fun q hq => ?_) (fun q x hx => ?_) (fun q r x h1 h2 => ?_)
  · rw [O.pln q hq]; rfl
  · split at hx
    · cases hx; exact he
    · split at hx
      · cases hx; exact hc
      · exact O.plc q x hx
  · by_cases q1 : A.pl q = some c
    · rw [if_pos q1] at h1
      cases h1
      by_cases r1 : A.pl r = some c
      · exact O.pli q r c q1 r1
      · rw [if_neg r1] at h2
        by_cases r2 : A.pl r = some e
        · rw [if_pos r2] at h2; cases h2; exact absurd r2 r1
        · rw [if_neg r2] at h2; exact absurd h2 r2
    · rw [if_neg q1] at h1
      by_cases q2 : A.pl q = some e
      · rw [if_pos q2] at h1
        cases h1
        by_cases r1 : A.pl r = some c
        · rw [if_pos r1] at h2; cases h2; exact absurd q2 q1
        · rw [if_neg r1] at h2
          by_cases r2 : A.pl r = some e
          · exact O.pli q r e q2 r2
          · rw [if_neg r2] at h2; exact absurd h2 r1
      · rw [if_neg q2] at h1
        by_cases r1 : A.pl r = some c
        · rw [if_pos r1] at h2; cases h2; exact absurd h1 q2
        · rw [if_neg r1] at h2
          by_cases r2 : A.pl r = some e
          · rw [if_pos r2] at h2; cases h2; exact absurd h1 q1
          · rw [if_neg r2] at h2; exact O.pli q r x h1 h2
theorem ROff.put (H : ROff σ a A) (O : OfcOk A) {p c : Nat} (hp : p < A.np) (hc : c < A.wide * A.high) (hl : A.pl p = none) (hw : A.who c = none) : ROff (setI (setI σ (a + 4) p (nI c)) (a + 8) c (nI p)) a (A.put p c) := by
  have O' := put_ok O hp hc hw
  refine H.setPl _ (fun _ _ _ => rfl) (fun b j _ _ h4 h8 => ?_) (fun _ _ _ _ => rfl) (fun _ => rfl) (fun q hq => ?_) (fun x hx => ?_)
  · rw [sI_setI, if_neg (fun h => h8 h.1), sI_setI, if_neg (fun h => h4 h.1)]
  · rw [sI_setI, if_neg (by omega), sI_setI]
    by_cases hqp : q = p
    · rw [if_pos ⟨rfl, hqp⟩]; simp [hqp]; rfl
    · rw [if_neg (fun h => hqp h.2), H.a4 q hq]; simp [hqp]
  · rw [sI_setI]
    by_cases hxc : x = c
    · rw [if_pos ⟨rfl, hxc⟩]
      have : (A.put p c).who x = some p := who_is O' (fun q h => by cases h; subst hxc; exact if_pos rfl) (fun h => by cases h)
      rw [show (A.setPl (fun q => if q = p then some c else A.pl q)).who x = (A.put p c).who x from rfl, this]
      rfl
    · rw [if_neg (fun h => hxc h.2), sI_setI, if_neg (by omega), H.a8 x hx]
      have : (A.put p c).who x = A.who x := who_is O' (fun q h => by
        have h1 := who_pl h
        show (if q = p then some c else A.pl q) = some x
        rw [if_neg (fun hh => by rw [hh, hl] at h1; cases h1)]
        exact h1) (fun h q hq => by
        have hq : (if q = p then some c else A.pl q) = some x := hq
        split at hq
        · cases hq; exact hxc rfl
        · rw [(who_iff O).mpr hq] at h; cases h)
      rw [show (A.setPl (fun q => if q = p then some c else A.pl q)).who x = (A.put p c).who x from rfl, this]
theorem ROff.tak (H : ROff σ a A) (O : OfcOk A) {p c : Nat} (hl : A.pl p = some c) : ROff (setI (setI σ (a + 8) c (-nI 1)) (a + 4) p (-nI 1)) a (A.tak p) := by
  have O' := tak_ok O p
  refine H.setPl _ (fun _ _ _ => rfl) (fun b j _ _ h4 h8 => ?_) (fun _ _ _ _ => rfl) (fun _ => rfl) (fun q hq => ?_) (fun x hx => ?_)
  · rw [sI_setI, if_neg (fun h => h4 h.1), sI_setI, if_neg (fun h => h8 h.1)]
  · rw [sI_setI]
    by_cases hqp : q = p
    · rw [if_pos ⟨rfl, hqp⟩]; simp [hqp]; rfl
    · rw [if_neg (fun h => hqp h.2), sI_setI, if_neg (by omega), H.a4 q hq]; simp [hqp]
  · rw [sI_setI, if_neg (by omega), sI_setI]
    by_cases hxc : x = c
    · rw [if_pos ⟨rfl, hxc⟩]
      have : (A.tak p).who x = none := who_is O' (fun q h => by cases h) (fun _ q hq => by
        have hq : (if q = p then none else A.pl q) = some x := hq
        split at hq
        · cases hq
        · rename_i hqp; exact hqp (O.pli q p c (hxc ▸ hq) hl))
      rw [show (A.setPl (fun q => if q = p then none else A.pl q)).who x = (A.tak p).who x from rfl, this]
      rfl
    · rw [if_neg (fun h => hxc h.2), H.a8 x hx]
      have : (A.tak p).who x = A.who x := who_is O' (fun q h => by
        have h1 := who_pl h
        show (if q = p then none else A.pl q) = some x
        rw [if_neg (fun hh => by rw [hh, hl] at h1; cases h1; exact hxc rfl)]
        exact h1) (fun h q hq => by
        have hq : (if q = p then none else A.pl q) = some x := hq
        split at hq
        · cases hq
        · rw [(who_iff O).mpr hq] at h; cases h)
      rw [show (A.setPl (fun q => if q = p then none else A.pl q)).who x = (A.tak p).who x from rfl, this]
theorem swa_pl (c e q : Nat) : (A.swa c e).pl q = if A.pl q = some c then some e else if A.pl q = some e then some c else A.pl q := rfl
theorem swa_who (O : OfcOk A) {c e : Nat} (hc : c < A.wide * A.high) (he : e < A.wide * A.high) (x : Nat) : (A.swa c e).who x = if x = e then A.who c else if x = c then A.who e else A.who x := by
  have O' := swa_ok O hc he
  refine who_is O' (fun q h => ?_) (fun h q hq => ?_)
  · rw [swa_pl]
    split at h
    · rename_i hx; rw [if_pos (who_pl h), hx]
    · split at h
      · rename_i hx1 hx2
        rw [if_neg (fun hh => hx1 (by rw [who_pl h] at hh; cases hh; exact hx2)), if_pos (who_pl h), hx2]
      · rename_i hx1 hx2
        rw [if_neg (fun hh => hx2 (by rw [who_pl h] at hh; cases hh; rfl)), if_neg (fun hh => hx1 (by rw [who_pl h] at hh; cases hh; rfl)), who_pl h]
  · rw [swa_pl] at hq
    split at hq
    · rename_i h1
      cases hq
      rw [if_pos rfl, (who_iff O).mpr h1] at h
      cases h
    · split at hq
      · rename_i h1 h2
        cases hq
        by_cases hce : c = e
        · rw [if_pos hce] at h; rw [(who_iff O).mpr (hce ▸ h2)] at h; cases h
        · rw [if_neg hce, if_pos rfl, (who_iff O).mpr h2] at h; cases h
      · rename_i h1 h2
        rw [if_neg (fun (hh : x = e) => h2 (hh ▸ hq)), if_neg (fun (hh : x = c) => h1 (hh ▸ hq)), (who_iff O).mpr hq] at h
        cases h
theorem ROff.swa (H : ROff σ a A) (O : OfcOk A) {c e : Nat} (hc : c < A.wide * A.high) (he : e < A.wide * A.high) (hne : c ≠ e) : ROff (A.swp σ a c e) a (A.swa c e) := by
  have h8 := O.p8
  have key4 : ∀ q, q < 8 → sI (A.swp σ a c e) (a + 4) q = oI ((A.swa c e).pl q) := by
    intro q hq
    rw [swa_pl]
    unfold Ofc.swp
    cases h1 : A.who c with
    | none =>
      have n1 : A.pl q ≠ some c := fun hh => by rw [(who_iff O).mpr hh] at h1; cases h1
      cases h2 : A.who e with
      | none =>
        have n2 : A.pl q ≠ some e := fun hh => by rw [(who_iff O).mpr hh] at h2; cases h2
        dsimp only
        rw [sI_setI, if_neg (by omega), sI_setI, if_neg (by omega), H.a4 q hq, if_neg n1, if_neg n2]
      | some r =>
        dsimp only
        rw [sI_setI, if_neg n1]
        by_cases hqr : q = r
        · rw [if_pos ⟨rfl, hqr⟩, if_pos (hqr ▸ who_pl h2)]; rfl
        · rw [if_neg (fun h => hqr h.2), sI_setI, if_neg (by omega), sI_setI, if_neg (by omega), H.a4 q hq, if_neg (fun hh => hqr (by rw [(who_iff O).mpr hh] at h2; cases h2; rfl))]
    | some s =>
      cases h2 : A.who e with
      | none =>
        have n2 : A.pl q ≠ some e := fun hh => by rw [(who_iff O).mpr hh] at h2; cases h2
        dsimp only
        rw [sI_setI]
        by_cases hqs : q = s
        · rw [if_pos ⟨rfl, hqs⟩, if_pos (hqs ▸ who_pl h1)]; rfl
        · rw [if_neg (fun h => hqs h.2), sI_setI, if_neg (by omega), sI_setI, if_neg (by omega), H.a4 q hq, if_neg (fun hh => hqs (by rw [(who_iff O).mpr hh] at h1; cases h1; rfl)), if_neg n2]
      | some r =>
        dsimp only
        rw [sI_setI]
        by_cases hqr : q = r
        · have hp := who_pl h2
          rw [if_pos ⟨rfl, hqr⟩, if_neg (fun hh => by rw [hqr, hp] at hh; cases hh; exact hne rfl), if_pos (hqr ▸ hp)]; rfl
        · rw [if_neg (fun h => hqr h.2), sI_setI]
          have n2 : A.pl q ≠ some e := fun hh => hqr (by rw [(who_iff O).mpr hh] at h2; cases h2; rfl)
          by_cases hqs : q = s
          · rw [if_pos ⟨rfl, hqs⟩, if_pos (hqs ▸ who_pl h1)]; rfl
          · rw [if_neg (fun h => hqs h.2), sI_setI, if_neg (by omega), sI_setI, if_neg (by omega), H.a4 q hq, if_neg (fun hh => hqs (by rw [(who_iff O).mpr hh] at h1; cases h1; rfl)), if_neg n2]
  have key : ∀ b j, b ≠ a + 4 → sI (A.swp σ a c e) b j = sI (setI (setI σ (a + 8) c (oI (A.who e))) (a + 8) e (oI (A.who c))) b j := by
    intro b j hb
    unfold Ofc.swp
    cases h1 : A.who c <;> cases h2 : A.who e <;> dsimp only
    · rw [sI_setI, if_neg (fun h => hb h.1)]
    · rw [sI_setI, if_neg (fun h => hb h.1)]
    · rw [sI_setI, if_neg (fun h => hb h.1), sI_setI, if_neg (fun h => hb h.1)]
  have kk : ∀ b, sK (A.swp σ a c e) b = sK σ b := by
    intro b; unfold Ofc.swp; cases h1 : A.who c <;> cases h2 : A.who e <;> rfl
  have kl : ∀ b j, sL (A.swp σ a c e) b j = sL σ b j := by
    intro b j; unfold Ofc.swp; cases h1 : A.who c <;> cases h2 : A.who e <;> rfl
  have kr : ∀ b j, sR (A.swp σ a c e) b j = sR σ b j := by
    intro b j; unfold Ofc.swp; cases h1 : A.who c <;> cases h2 : A.who e <;> rfl
  refine H.setPl _ (fun b _ _ => kk b) (fun b j _ _ h4 h8 => ?_) (fun b j _ _ => kl b j) (fun j => kr a j) key4 (fun x hx => ?_)
  · rw [key b j h4, sI_setI, if_neg (fun h => h8 h.1), sI_setI, if_neg (fun h => h8 h.1)]
  · rw [key _ _ (by omega), sI_setI]
    have w := swa_who O hc he x
    rw [show (A.setPl (fun q => if A.pl q = some c then some e else if A.pl q = some e then some c else A.pl q)).who x = (A.swa c e).who x from rfl, w]
    by_cases h1 : x = e
    · rw [if_pos ⟨rfl, h1⟩, if_pos h1]
    · rw [if_neg (fun h => h1 h.2), sI_setI, if_neg h1]
      by_cases h2 : x = c
      · rw [if_pos ⟨rfl, h2⟩, if_pos h2]
      · rw [if_neg (fun h => h2 h.2), if_neg h2, H.a8 x hx]
theorem swp_ag (c e : Nat) : Ag (fun b => a ≤ b ∧ b ≤ a + 11) σ (A.swp σ a c e) := by
  unfold Ofc.swp
  have h4 : a ≤ a + 4 ∧ a + 4 ≤ a + 11 := ⟨by omega, by omega⟩
  have h8 : a ≤ a + 8 ∧ a + 8 ≤ a + 11 := ⟨by omega, by omega⟩
  cases h1 : A.who c <;> cases h2 : A.who e <;> dsimp only
  · exact (Ag.rf.setI h8).setI h8
  · exact ((Ag.rf.setI h8).setI h8).setI h4
  · exact ((Ag.rf.setI h8).setI h8).setI h4
  · exact (((Ag.rf.setI h8).setI h8).setI h4).setI h4
end LAY
