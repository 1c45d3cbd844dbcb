/-! CHAINS: how far papers are from each other -/
theorem bset_bit (P : Nat → Bool) (a j : Nat) : ∀ m, (zfor (fun q n => if P q = true then n ||| 2 ^ q else n) m a).testBit j = (a.testBit j || (decide (j < m) && P j)) := by
  intro m
  induction m with
  | zero => simp [zfor]
  | succ m ih =>
    show (if P m = true then zfor _ m a ||| 2 ^ m else zfor _ m a).testBit j = _
    by_cases h : j = m
    · subst h
      cases hp : P j
      · simp [ih, hp]
      · simp [hp]
    · have e : decide (j < m + 1) = decide (j < m) := by
        congr 1
        exact propext ⟨fun x => by omega, fun x => by omega⟩
      rw [e, ← ih]
      cases hp : P m
      · simp
      · simp only [if_true, Nat.testBit_or, Nat.testBit_two_pow_of_ne (fun hh => h hh.symm), Bool.or_false]
theorem bun_bit (s : Nat) (F : Nat → Nat) (a j : Nat) : ∀ m, ((zfor (fun p n => if s.testBit p = true then n ||| F p else n) m a).testBit j = true ↔ (a.testBit j = true ∨ ∃ p, p < m ∧ s.testBit p = true ∧ (F p).testBit j = true)) := by
  intro m
  induction m with
  | zero => simp [zfor]
  | succ m ih =>
    show ((if s.testBit m = true then zfor _ m a ||| F m else zfor _ m a).testBit j = true ↔ _)
    refine ⟨fun h => ?_, fun h => ?_⟩
    · by_cases hs : s.testBit m = true
      · rw [if_pos hs, Nat.testBit_or, Bool.or_eq_true, ih] at h
        rcases h with (h | ⟨p, hp, h⟩) | h
        · exact .inl h
        · exact .inr ⟨p, by omega, h⟩
        · exact .inr ⟨m, by omega, hs, h⟩
      · rw [if_neg hs, ih] at h
        rcases h with h | ⟨p, hp, h⟩
        · exact .inl h
        · exact .inr ⟨p, by omega, h⟩
    · have low : (a.testBit j = true ∨ ∃ p, p < m ∧ s.testBit p = true ∧ (F p).testBit j = true) → (if s.testBit m = true then zfor (fun p n => if s.testBit p = true then n ||| F p else n) m a ||| F m else zfor (fun p n => if s.testBit p = true then n ||| F p else n) m a).testBit j = true := by
        intro hl
        by_cases hs : s.testBit m = true
        · rw [if_pos hs, Nat.testBit_or, Bool.or_eq_true]; exact .inl (ih.mpr hl)
        · rw [if_neg hs]; exact ih.mpr hl
      rcases h with h | ⟨p, hp, h1, h2⟩
      · exact low (.inl h)
      · rcases Nat.lt_succ_iff_lt_or_eq.mp hp with hpm | hpm
        · exact low (.inr ⟨p, hpm, h1, h2⟩)
        · subst hpm
          rw [if_pos h1, Nat.testBit_or, Bool.or_eq_true]
          exact .inr h2
section BFS
variable {A : Ofc}
theorem like_comm (p q : Nat) : A.like p q = A.like q p := by
  unfold Ofc.like
  rw [Nat.and_comm]
theorem nearTo_comm (p q : Nat) : A.nearTo p q = A.nearTo q p := by
  unfold Ofc.nearTo
  rw [like_comm p q]
  congr 1
  congr 1
  exact propext ⟨fun h => fun hh => h hh.symm, fun h => fun hh => h hh.symm⟩
theorem nears_bit (p j : Nat) : (A.nears p).testBit j = (decide (j < A.np) && A.nearTo p j) := by
  unfold Ofc.nears
  rw [bset_bit (fun q => A.nearTo p q)]
  simp
theorem wider_bit (s j : Nat) : (A.wider s).testBit j = true ↔ (s.testBit j = true ∨ (j < A.np ∧ ∃ b, b < A.np ∧ s.testBit b = true ∧ A.nearTo b j = true)) := by
  unfold Ofc.wider
  rw [bun_bit s A.nears]
  refine ⟨fun h => ?_, fun h => ?_⟩
  · rcases h with h | ⟨p, hp, h1, h2⟩
    · exact .inl h
    · rw [nears_bit, Bool.and_eq_true, decide_eq_true_eq] at h2
      exact .inr ⟨h2.1, p, hp, h1, h2.2⟩
  · rcases h with h | ⟨h0, p, hp, h1, h2⟩
    · exact .inl h
    · exact .inr ⟨p, hp, h1, by rw [nears_bit, Bool.and_eq_true, decide_eq_true_eq]; exact ⟨h0, h2⟩⟩
/-- p is at most i links from q -/
def Ofc.R (A : Ofc) (q i p : Nat) : Prop := (A.grown q i).testBit p = true
theorem R_0 (q p : Nat) : A.R q 0 p ↔ p = q := by
  show (2 ^ q).testBit p = true ↔ _
  rw [Nat.testBit_two_pow, decide_eq_true_eq]
  exact ⟨Eq.symm, Eq.symm⟩
theorem R_s (q i p : Nat) : A.R q (i + 1) p ↔ (A.R q i p ∨ (p < A.np ∧ ∃ b, b < A.np ∧ A.R q i b ∧ A.nearTo b p = true)) := by
  unfold Ofc.R
  rw [grown_s, wider_bit]
theorem R_mono {q i p : Nat} (h : A.R q i p) : ∀ j, i ≤ j → A.R q j p := by
  intro j hj
  obtain ⟨k, rfl⟩ := Nat.le.dest hj
  clear hj
  induction k with
  | zero => exact h
  | succ k ih => exact (R_s q (i + k) p).mpr (.inl ih)
theorem R_np {q i p : Nat} (hq : q < A.np) (h : A.R q i p) : p < A.np := by
  induction i with
  | zero => rw [(R_0 q p).mp h]; exact hq
  | succ i ih =>
    rcases (R_s q i p).mp h with h | h
    · exact ih h
    · exact h.1
def Ofc.cnt (A : Ofc) (q i : Nat) : Nat := sm 8 (fun p => if (A.grown q i).testBit p = true then 1 else 0)
theorem cnt_s (O : OfcOk A) {q i : Nat} (hq : q < A.np) (h : ¬ A.grown q (i + 1) = A.grown q i) : A.cnt q i + 1 ≤ A.cnt q (i + 1) := by
  have h8 := O.p8
  have : ∃ p, A.R q (i + 1) p ∧ ¬ A.R q i p := by
    refine Classical.byContradiction (fun hn => h ?_)
    refine Nat.eq_of_testBit_eq (fun p => ?_)
    by_cases h1 : A.R q i p
    · have h2 := R_mono h1 (i + 1) (by omega)
      unfold Ofc.R at h1 h2
      rw [h1, h2]
    · have h2 : ¬ A.R q (i + 1) p := fun h2 => hn ⟨p, h2, h1⟩
      unfold Ofc.R at h1 h2
      rw [Bool.not_eq_true] at h1 h2
      rw [h1, h2]
  obtain ⟨p, h1, h2⟩ := this
  refine sm_lt (k := p) (fun j _ => ?_) (by have := R_np hq h1; omega) ?_
  · by_cases hj : A.R q i j
    · have hj2 := R_mono hj (i + 1) (by omega)
      unfold Ofc.R at hj hj2
      rw [hj, hj2]
      exact Nat.le_refl _
    · unfold Ofc.R at hj
      rw [if_neg hj]
      exact Nat.zero_le _
  · unfold Ofc.R at h1 h2
    rw [if_neg h2, if_pos h1]
    exact Nat.one_pos
theorem cnt_8 (q i : Nat) : A.cnt q i ≤ 8 := by
  have : ∀ n, sm n (fun p => if (A.grown q i).testBit p = true then 1 else 0) ≤ n := by
    intro n
    induction n with
    | zero => exact Nat.le_refl _
    | succ n ih =>
      rw [sm_s]
      split <;> omega
  exact this 8
theorem grown_st {q k : Nat} (h : A.grown q (k + 1) = A.grown q k) : ∀ j, k ≤ j → A.grown q j = A.grown q k := by
  intro j hj
  obtain ⟨m, rfl⟩ := Nat.le.dest hj
  clear hj
  induction m with
  | zero => rfl
  | succ m ih => rw [show k + (m + 1) = k + m + 1 from rfl, grown_s, ih, ← grown_s, h]
theorem grown_8 (O : OfcOk A) {q : Nat} (hq : q < A.np) : A.grown q 8 = A.grown q 7 := by
  have h8 := O.p8
  have key : ∀ i, (∃ k, k ≤ i ∧ A.grown q (k + 1) = A.grown q k) ∨ i + 1 ≤ A.cnt q i := by
    intro i
    induction i with
    | zero =>
      right
      have : 0 < A.cnt q 0 := by
        have h := sm_lt (n := 8) (k := q) (f := fun _ => 0) (g := fun p => if (A.grown q 0).testBit p = true then 1 else 0) (fun _ _ => Nat.zero_le _) (by omega) (by
          have : A.R q 0 q := (R_0 q q).mpr rfl
          unfold Ofc.R at this
          rw [if_pos this]
          exact Nat.one_pos)
        exact Nat.lt_of_le_of_lt (Nat.zero_le _) h
      omega
    | succ i ih =>
      rcases ih with ⟨k, hk, h⟩ | h
      · exact .inl ⟨k, by omega, h⟩
      · by_cases hs : A.grown q (i + 1) = A.grown q i
        · exact .inl ⟨i, by omega, hs⟩
        · have := cnt_s O hq hs
          exact .inr (by omega)
  rcases key 7 with ⟨k, hk, h⟩ | h
  · rw [grown_st h 8 (by omega), grown_st h 7 hk]
  · refine Classical.byContradiction (fun hn => ?_)
    have h1 : A.cnt q 7 + 1 ≤ A.cnt q 8 := cnt_s O hq hn
    have h2 := cnt_8 (A := A) q 8
    omega
theorem linksG_some {p q : Nat} : ∀ (m i k : Nat), A.linksG p q m i = some k → A.R q k p ∧ i ≤ k ∧ ∀ j, i ≤ j → j < k → ¬ A.R q j p := by
  intro m
  induction m with
  | zero => intro i k h; cases h
  | succ m ih =>
    intro i k h
    unfold Ofc.linksG at h
    split at h
    · rename_i hb
      cases h
      exact ⟨hb, Nat.le_refl _, fun j h1 h2 => by omega⟩
    · rename_i hb
      obtain ⟨h1, h2, h3⟩ := ih (i + 1) k h
      refine ⟨h1, by omega, fun j hj hk => ?_⟩
      by_cases hji : j = i
      · subst hji; exact hb
      · exact h3 j (by omega) hk
theorem linksG_none {p q : Nat} : ∀ (m i : Nat), A.linksG p q m i = none → ∀ j, i ≤ j → j < i + m → ¬ A.R q j p := by
  intro m
  induction m with
  | zero => intro i _ j h1 h2; omega
  | succ m ih =>
    intro i h j h1 h2
    unfold Ofc.linksG at h
    split at h
    · cases h
    · rename_i hb
      by_cases hji : j = i
      · subst hji; exact hb
      · exact ih (i + 1) h j (by omega) (by omega)
theorem links_some {p q k : Nat} (h : A.links p q = some k) : A.R q k p ∧ k < 8 ∧ ∀ j, j < k → ¬ A.R q j p :=
  ⟨(linksG_some 8 0 k h).1, links_lt h, fun j hj => (linksG_some 8 0 k h).2.2 j (Nat.zero_le _) hj⟩
/-- reached: at most so far -/
theorem links_R (O : OfcOk A) {p q i : Nat} (hq : q < A.np) (hi : i ≤ 8) (h : A.R q i p) : ∃ l, A.links p q = some l ∧ l ≤ i ∧ l ≤ 7 := by
  have h7 : ∃ i', i' ≤ i ∧ i' ≤ 7 ∧ A.R q i' p := by
    by_cases hh : i ≤ 7
    · exact ⟨i, Nat.le_refl _, hh, h⟩
    · have hh : i = 8 := by omega
      subst hh
      refine ⟨7, by omega, Nat.le_refl _, ?_⟩
      unfold Ofc.R at h ⊢
      rw [← grown_8 O hq]
      exact h
  obtain ⟨i', h1, h2, h3⟩ := h7
  cases hl : A.links p q with
  | none => exact absurd h3 (linksG_none 8 0 hl i' (Nat.zero_le _) (by omega))
  | some l =>
    have hs := links_some hl
    refine ⟨l, rfl, ?_, by omega⟩
    refine Classical.byContradiction (fun hn => hs.2.2 i' (by omega) h3)
def Ofc.D (A : Ofc) (q p : Nat) : Nat := match A.links p q with
  | none => 1000000
  | some l => l + 1
theorem D_self (q : Nat) : A.links q q = some 0 := by
  unfold Ofc.links Ofc.linksG
  have h : (A.grown q 0).testBit q = true := (R_0 q q).mpr rfl
  rw [if_pos h]
theorem D_near (O : OfcOk A) {q a b : Nat} (hq : q < A.np) (ha : a < A.np) (hb : b < A.np) (h : A.nearTo a b = true) : A.D q a ≤ A.D q b + 1 := by
  unfold Ofc.D
  cases hl : A.links b q with
  | none =>
    dsimp only
    cases hl2 : A.links a q with
    | none => dsimp only; omega
    | some l => dsimp only; have := links_lt hl2; omega
  | some l =>
    have hs := links_some hl
    have hr : A.R q (l + 1) a := (R_s q l a).mpr (.inr ⟨ha, b, hb, hs.1, by rw [nearTo_comm]; exact h⟩)
    obtain ⟨m, h1, h2, h3⟩ := links_R O hq (by omega) hr
    rw [h1]
    dsimp only
    omega
theorem D_pre (O : OfcOk A) {q a l : Nat} (hq : q < A.np) (h : A.links a q = some (l + 1)) : ∃ b, b < A.np ∧ A.nearTo a b = true ∧ A.links b q = some l := by
  have hs := links_some h
  rcases (R_s q l a).mp hs.1 with h1 | ⟨ha, b, hb, h1, h2⟩
  · exact absurd h1 (hs.2.2 l (by omega))
  · refine ⟨b, hb, by rw [nearTo_comm]; exact h2, ?_⟩
    obtain ⟨m, e1, e2, e3⟩ := links_R O hq (by have := hs.2.1; omega) h1
    rw [e1]
    congr 1
    refine Nat.le_antisymm e2 (Classical.byContradiction (fun hn => ?_))
    have hm := links_some e1
    have : A.R q (m + 1) a := (R_s q m a).mpr (.inr ⟨ha, b, hb, hm.1, h2⟩)
    exact hs.2.2 (m + 1) (by omega) this
/-- the Model's way: shortened 8 times along every couple -/
def updN (f : Nat → Nat) (a v : Nat) : Nat → Nat := fun p => if p = a then v else f p
def Ofc.rlx (A : Ofc) (a b : Nat) (f : Nat → Nat) : Nat → Nat := if A.nearTo a b = true then updN f a (min (f a) (f b + 1)) else f
def Ofc.rlxR (A : Ofc) (a : Nat) (f : Nat → Nat) : Nat → Nat := zfor (fun b f => A.rlx a b f) A.np f
def Ofc.rlxP (A : Ofc) (f : Nat → Nat) : Nat → Nat := zfor (fun a f => A.rlxR a f) A.np f
def far0 (q : Nat) : Nat → Nat := fun p => if p = q then 1 else 1000000
def Ofc.far (A : Ofc) (q : Nat) : Nat → Nat := zfor (fun _ f => A.rlxP f) 8 (far0 q)
theorem mono_to {g : Nat → (Nat → Nat) → (Nat → Nat)} (hg : ∀ i f p, g i f p ≤ f p) (f : Nat → Nat) (p : Nat) : ∀ n, zfor g n f p ≤ f p ∧ ∀ i, i < n → zfor g n f p ≤ g i (zfor g i f) p := by
  intro n
  induction n with
  | zero => exact ⟨Nat.le_refl _, fun i hi => by omega⟩
  | succ n ih =>
    have h1 : zfor g (n + 1) f p ≤ zfor g n f p := hg n (zfor g n f) p
    refine ⟨Nat.le_trans h1 ih.1, fun i hi => ?_⟩
    by_cases h : i = n
    · subst h; exact Nat.le_refl _
    · exact Nat.le_trans h1 (ih.2 i (by omega))
theorem rlx_le (a b : Nat) (f : Nat → Nat) (p : Nat) : A.rlx a b f p ≤ f p := by
  unfold Ofc.rlx updN
  split
  · dsimp only
    split
    · rename_i h; rw [h]; exact Nat.min_le_left _ _
    · exact Nat.le_refl _
  · exact Nat.le_refl _
theorem rlxR_le (a : Nat) (f : Nat → Nat) (p : Nat) : A.rlxR a f p ≤ f p := (mono_to (g := fun b f => A.rlx a b f) (fun b f p => rlx_le a b f p) f p A.np).1
theorem rlxP_le (f : Nat → Nat) (p : Nat) : A.rlxP f p ≤ f p := (mono_to (g := fun a f => A.rlxR a f) (fun a f p => rlxR_le a f p) f p A.np).1
theorem rlx_ge (O : OfcOk A) {q a b : Nat} (hq : q < A.np) (ha : a < A.np) (hb : b < A.np) {f : Nat → Nat} (h : ∀ p, p < A.np → A.D q p ≤ f p) : ∀ p, p < A.np → A.D q p ≤ A.rlx a b f p := by
  intro p hp
  unfold Ofc.rlx
  split
  · rename_i hn
    unfold updN
    split
    · rename_i e
      subst e
      have h1 := h p hp
      have h2 := h b hb
      have h3 := D_near O hq hp hb hn
      exact Nat.le_min.mpr ⟨h1, by omega⟩
    · exact h p hp
  · exact h p hp
theorem far_ge (O : OfcOk A) {q : Nat} (hq : q < A.np) : ∀ p, p < A.np → A.D q p ≤ A.far q p := by
  refine zfor_inv (I := fun (f : Nat → Nat) => ∀ p, p < A.np → A.D q p ≤ f p) (fun p hp => ?_) (fun _ f _ h => ?_) 8 (Nat.le_refl _)
  · unfold far0
    split
    · rename_i e
      subst e
      unfold Ofc.D
      rw [D_self]
      exact Nat.le_refl _
    · unfold Ofc.D
      split
      · exact Nat.le_refl _
      · rename_i l hl
        have := links_lt hl
        omega
  · refine zfor_inv (I := fun (f : Nat → Nat) => ∀ p, p < A.np → A.D q p ≤ f p) h (fun a f ha h => ?_) _ (Nat.le_refl _)
    exact zfor_inv (I := fun (f : Nat → Nat) => ∀ p, p < A.np → A.D q p ≤ f p) h (fun b f hb h => rlx_ge O hq ha hb h) _ (Nat.le_refl _)
theorem pass_to (O : OfcOk A) {q n : Nat} (hq : q < A.np) {f : Nat → Nat} (h : ∀ p l, p < A.np → A.links p q = some l → l < n → f p ≤ l + 1) (hn : 0 < n) : ∀ p l, p < A.np → A.links p q = some l → l < n + 1 → A.rlxP f p ≤ l + 1 := by
  intro p l hp hl hln
  by_cases h0 : l < n
  · exact Nat.le_trans (rlxP_le f p) (h p l hp hl h0)
  · obtain ⟨m, rfl⟩ : ∃ m, l = m + 1 := ⟨l - 1, by omega⟩
    obtain ⟨b, hb, h1, h2⟩ := D_pre O hq hl
    have e1 := (mono_to (g := fun a f => A.rlxR a f) (fun a f p => rlxR_le a f p) f p A.np).2 p hp
    have e2 := (mono_to (g := fun b f => A.rlx p b f) (fun b f x => rlx_le p b f x) (zfor (fun a f => A.rlxR a f) p f) p A.np).2 b hb
    have e3 : A.rlx p b (zfor (fun b f => A.rlx p b f) b (zfor (fun a f => A.rlxR a f) p f)) p ≤ zfor (fun b f => A.rlx p b f) b (zfor (fun a f => A.rlxR a f) p f) b + 1 := by
      conv => lhs; unfold Ofc.rlx updN
      rw [if_pos h1]
      rw [if_pos rfl]
      exact Nat.min_le_right _ _
    have e4 := (mono_to (g := fun b f => A.rlx p b f) (fun b f x => rlx_le p b f x) (zfor (fun a f => A.rlxR a f) p f) b b).1
    have e5 := (mono_to (g := fun a f => A.rlxR a f) (fun a f x => rlxR_le a f x) f b p).1
    have e6 := h b m hb h2 (by omega)
    have e7 : A.rlxP f p ≤ A.rlxR p (zfor (fun a f => A.rlxR a f) p f) p := e1
    have e8 : A.rlxR p (zfor (fun a f => A.rlxR a f) p f) p ≤ A.rlx p b (zfor (fun b f => A.rlx p b f) b (zfor (fun a f => A.rlxR a f) p f)) p := e2
    omega
theorem far_eq (O : OfcOk A) {q p : Nat} (hq : q < A.np) (hp : p < A.np) : A.far q p = A.D q p := by
  refine Nat.le_antisymm ?_ (far_ge O hq p hp)
  have key : ∀ k, ∀ p l, p < A.np → A.links p q = some l → l < k + 1 → zfor (fun _ f => A.rlxP f) k (far0 q) p ≤ l + 1 := by
    intro k
    induction k with
    | zero =>
      intro p l hp hl h
      have hl0 : l = 0 := by omega
      subst hl0
      have := (R_0 q p).mp (links_some hl).1
      show far0 q p ≤ _
      unfold far0
      rw [if_pos this]
      exact Nat.le_refl _
    | succ k ih => exact fun p l hp hl h => pass_to O hq ih (by omega) p l hp hl h
  unfold Ofc.D
  cases hl : A.links p q with
  | none =>
    dsimp only
    have h1 : A.far q p ≤ far0 q p := (mono_to (g := fun _ f => A.rlxP f) (fun _ f p => rlxP_le f p) (far0 q) p 8).1
    have h2 : far0 q p ≤ 1000000 := by unfold far0; split <;> omega
    omega
  | some l => exact key 8 p l hp hl (by have := links_lt hl; omega)
end BFS
