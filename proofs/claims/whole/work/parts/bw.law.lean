/-! THE LAW'S LOOP -/
section LAW
def LI (L : Nat) (xs : Nat → Int32) (n : Nat) (σ : MS) (s : Sx) : Prop := (∃ a b u w, IXc σ a b u w s) ∧ (IMc σ s) ∧ (SOk s) ∧ (sK σ 0 = (6, L)) ∧ (∀ j, sI σ 0 j = xs j) ∧ (143 ≤ σ.1.length) ∧ (σ.1.length ≤ 143 + 2 * n) ∧ (zsl σ ≤ L + 20000 + 40 * n)
theorem LI.x {L : Nat} {xs : Nat → Int32} {n : Nat} {σ : MS} {s : Sx} (H : LI L xs n σ s) : ∃ a b u w, IXc σ a b u w s := H.1
theorem LI.m {L : Nat} {xs : Nat → Int32} {n : Nat} {σ : MS} {s : Sx} (H : LI L xs n σ s) : IMc σ s := H.2.1
theorem LI.o {L : Nat} {xs : Nat → Int32} {n : Nat} {σ : MS} {s : Sx} (H : LI L xs n σ s) : SOk s := H.2.2.1
theorem LI.k {L : Nat} {xs : Nat → Int32} {n : Nat} {σ : MS} {s : Sx} (H : LI L xs n σ s) : sK σ 0 = (6, L) := H.2.2.2.1
theorem LI.i {L : Nat} {xs : Nat → Int32} {n : Nat} {σ : MS} {s : Sx} (H : LI L xs n σ s) : ∀ j, sI σ 0 j = xs j := H.2.2.2.2.1
theorem LI.l1 {L : Nat} {xs : Nat → Int32} {n : Nat} {σ : MS} {s : Sx} (H : LI L xs n σ s) : 143 ≤ σ.1.length := H.2.2.2.2.2.1
theorem LI.l2 {L : Nat} {xs : Nat → Int32} {n : Nat} {σ : MS} {s : Sx} (H : LI L xs n σ s) : σ.1.length ≤ 143 + 2 * n := H.2.2.2.2.2.2.1
theorem LI.z {L : Nat} {xs : Nat → Int32} {n : Nat} {σ : MS} {s : Sx} (H : LI L xs n σ s) : zsl σ ≤ L + 20000 + 40 * n := H.2.2.2.2.2.2.2
theorem LI.mk {L : Nat} {xs : Nat → Int32} {n : Nat} {σ : MS} {s : Sx} (x : ∃ a b u w, IXc σ a b u w s) (m : IMc σ s) (o : SOk s) (k : sK σ 0 = (6, L)) (i : ∀ j, sI σ 0 j = xs j) (l1 : 143 ≤ σ.1.length) (l2 : σ.1.length ≤ 143 + 2 * n) (z : zsl σ ≤ L + 20000 + 40 * n) : LI L xs n σ s := ⟨x, m, o, k, i, l1, l2, z⟩
variable {n i L k : Nat} {xs : Nat → Int32} {σ τ ρ : MS} {s s' : Sx}
theorem Grw.len (h : Grw σ τ) : σ.1.length ≤ τ.1.length ∧ τ.1.length ≤ σ.1.length + 2 := by
  rcases h with h | h | h
  · rw [h]; omega
  · rw [h, List.length_append]; show _ ≤ _ + 1 ∧ _ + 1 ≤ _; omega
  · rw [h, List.length_append, List.length_append]; show _ ≤ _ + 1 + 1 ∧ _ + 1 + 1 ≤ _; omega
theorem Grw.zl (h : Grw σ τ) : zsl τ ≤ zsl σ + 40 := by
  have a1 : zsz (0, 6) ≤ 20 := by decide +kernel
  have a2 : zsz (0, 2) ≤ 20 := by decide +kernel
  have a3 : zsz (1, 3) ≤ 20 := by decide +kernel
  unfold zsl
  rcases h with h | h | h
  · rw [h]; omega
  · rw [h, List.map_append, List.sum_append_nat]; show _ + (zsz (0, 6) + 0) ≤ _; omega
  · rw [h, List.map_append, List.map_append, List.sum_append_nat, List.sum_append_nat]; show _ + (zsz (0, 2) + 0) + (zsz (1, 3) + 0) ≤ _; omega
theorem IXc.m3 (S : SOk s) : s.m ≤ 3 := S.m3
/-- one round: the same call on both sides -/
theorem LI.step (H : LI L xs n σ s) {y y2 : Nat} {as as2 : List Value} {r : Value} (X : ∀ a b u w, IXc σ a b u w s → XC σ y as r s') (M : ∀ τ, IMc τ s → MC τ y2 as2 r s') (S' : SOk s') :
   ∃ τ ρ, LI L xs (n + 1) ρ s' ∧ (∀ K, zC 30 y as σ K = K (some r) τ) ∧ (∀ K, zC 30 y2 as2 τ K = K (some r) ρ) ∧ sK τ 0 = (6, L) ∧ (∀ j, sI τ 0 j = xs j) ∧ sK τ 120 = (0, 11) := by
  obtain ⟨a, b, u, w, I⟩ := H.x
  obtain ⟨τ, ⟨a', b', u', w', I'⟩, f, g, e1⟩ := X a b u w I
  obtain ⟨ρ, J', f2, e2⟩ := M τ (H.m.far f)
  have g1 := g.len
  have g2 := g.zl
  have h1 := H.l1
  have h2 := H.l2
  have h3 := H.z
  have q : ρ.1 = τ.1 := f2.1
  have zq : zsl ρ = zsl τ := by unfold zsl; rw [q]
  have k1 : sK τ 0 = (6, L) := (f.K (by omega)).trans H.k
  have i1 : ∀ j, sI τ 0 j = xs j := fun j => (f.I (by omega) (by omega) j).trans (H.i j)
  exact ⟨τ, ρ, LI.mk ⟨a', b', u', w', I'.mdl S'.m3 (f2.mono (fun c hc => hc.1))⟩ J' S' ((f2.K 0).trans k1) (fun j => (f2.I (by omega) j).trans (i1 j)) (by rw [q]; omega) (by rw [q]; omega) (by rw [zq]; omega), e1, e2, k1, i1, (H.m.far f).m.m.k⟩
theorem LI.kx (H : LI L xs n σ s) : sK σ 1 = (0, 10) := by
  obtain ⟨a, b, u, w, I⟩ := H.x
  exact I.x.k
theorem lgc (x : Int64) : (lg_cmp x x = nI 0) = True := by
  unfold lg_cmp
  simp
  rfl
def LStep (L : Nat) (xs : Nat → Int32) (n i k : Nat) : Prop := ∀ σ s, LI L xs n σ s → xs i &&& nI 63 = nI k → ∃ τ s', LI L xs (n + 1) τ s' ∧ ∀ K, zX 30 385 18 [.ref 0, .ref 1, .ref 120, .int (nI i)] [] σ K = zX 30 385 18 [.ref 0, .ref 1, .ref 120, .int (nI (i + 6))] [] τ K
theorem sub6 (hi : i + 6 ≤ L) (hL : L ≤ 3072) : nI L - nI 6 = nI (L - 6) := by
  symm
  apply Int32.eq_sub_iff_add_eq.mpr
  rw [nI_add]
  congr 1
  omega
end LAW
