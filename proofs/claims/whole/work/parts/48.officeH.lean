/-- another way to lie -/
def Ofc.setPl (A : Ofc) (f : Nat → Option Nat) : Ofc := (A.1, A.2.1, A.2.2.1, f, A.2.2.2.2)
theorem ROff.setPl {σ τ : MS} {a : Nat} {A : Ofc} (H : ROff σ a A) (f : Nat → Option Nat) (hK : ∀ b, a ≤ b → b ≤ a + 11 → sK τ b = sK σ b) (hI : ∀ b j, a ≤ b → b ≤ a + 10 → b ≠ a + 4 → b ≠ a + 8 → sI τ b j = sI σ b j) (hL : ∀ b j, a ≤ b → b ≤ a + 10 → sL τ b j = sL σ b j) (hR : ∀ j, sR τ a j = sR σ a j)
    (h4 : ∀ p, p < 8 → sI τ (a + 4) p = oI (f p)) (h8 : ∀ c, c < 20 → sI τ (a + 8) c = oI ((A.setPl f).who c)) : ROff τ a (A.setPl f) := by
  have z : ∀ k, k ≤ 11 → sK τ (a + k) = sK σ (a + k) := fun k hk => hK _ (by omega) (by omega)
  have y : ∀ k, k ≤ 10 → k ≠ 4 → k ≠ 8 → ∀ j, sI τ (a + k) j = sI σ (a + k) j := fun k hk n1 n2 j => hI _ j (by omega) (by omega) (by omega) (by omega)
  have x : ∀ k, k ≤ 10 → ∀ j, sL τ (a + k) j = sL σ (a + k) j := fun k hk j => hL _ j (by omega) (by omega)
  refine ROff.mk ((z 0 (by omega)).trans H.k) ?_ ?_ ?_ ?_ ?_ ?_ ?_ ?_ ((hR _).trans H.r8) ((hR _).trans H.r9) ((hR _).trans H.r10) ((hR _).trans H.r11) ((hR _).trans H.r12) ((hR _).trans H.r13) ((hR _).trans H.r14) ((hR _).trans H.r15) ((hR _).trans H.r16) ((hR _).trans H.r17) ((hR _).trans H.r18) ((z 1 (by omega)).trans H.k1) ((z 2 (by omega)).trans H.k2) ((z 3 (by omega)).trans H.k3) ((z 4 (by omega)).trans H.k4) ((z 5 (by omega)).trans H.k5) ((z 6 (by omega)).trans H.k6) ((z 7 (by omega)).trans H.k7) ((z 8 (by omega)).trans H.k8) ((z 9 (by omega)).trans H.k9) ((z 10 (by omega)).trans H.k10) ((z 11 (by omega)).trans H.k11) ?_ ?_ ?_ h4 ?_ ?_ ?_ h8 ?_ ?_
  · exact (y 0 (by omega) (by omega) (by omega) _).trans H.i0
  · exact (y 0 (by omega) (by omega) (by omega) _).trans H.i1
  · exact (y 0 (by omega) (by omega) (by omega) _).trans H.i2
  · exact (y 0 (by omega) (by omega) (by omega) _).trans H.i3
  · exact (y 0 (by omega) (by omega) (by omega) _).trans H.i4
  · exact (y 0 (by omega) (by omega) (by omega) _).trans H.i5
  · exact (y 0 (by omega) (by omega) (by omega) _).trans H.i6
  · exact (y 0 (by omega) (by omega) (by omega) _).trans H.i7
  · exact fun t h => (y 1 (by omega) (by omega) (by omega) _).trans (H.a1 t h)
  · exact fun t h => (x 2 (by omega) _).trans (H.a2 t h)
  · exact fun t h => (y 3 (by omega) (by omega) (by omega) _).trans (H.a3 t h)
  · exact fun t h => (x 5 (by omega) _).trans (H.a5 t h)
  · exact fun t h => (y 6 (by omega) (by omega) (by omega) _).trans (H.a6 t h)
  · exact fun t h => (x 7 (by omega) _).trans (H.a7 t h)
  · exact fun c k h1 h2 => (y 9 (by omega) (by omega) (by omega) _).trans (H.a9 c k h1 h2)
  · exact fun p q h1 h2 => (y 10 (by omega) (by omega) (by omega) _).trans (H.a10 p q h1 h2)
